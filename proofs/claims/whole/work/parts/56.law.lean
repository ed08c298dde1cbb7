/-! ===== the law's own body ===== -/
/-! THE CLAIM OUT OF ONE WALK OF THE LAW'S BODY. Your part is whole_start (and what it stands on); all else here is the same for every law, but numbers. -/
def R_law : String := "GameOfNoesLaw"
def lw_P (b : Addr) (xs : List Int32) (args : Array Value) (s : State) : Prop := args = #[.ref b] ∧ s.IntsAt b xs ∧ xs.length ≤ 386 ∧ (Jvm.Cond.and given_1 narrow_1).before args s = true
def lw_Q (_ : Array Value) (s : State) (o : Outcome) (t : State) : Prop := o = .returned (some (.int 1)) ∧ Framed s o t [] 600000 7302250
def lw_Z (below : List Frame) (a : Array Value) (s : State) : State → Prop := fun t => ∃ o, t.status = .running ∧ Ended t below o ∧ lw_Q a s o t
/-- the law's own end, with 1 on the stack, nothing written that was there before, its room as the claim has it -/
theorem lw_ret {p : Program} {l : Launch} {e : Env} {s : State} {m : MethodId} {below : List Frame} {meth : Method} {c : Code} {b : Nat} (hx : p.tables.exec = Jvm.exec) (hb : c.code = code) (hr : meth.sig.returnType = ret) (hlocks : meth.locks = false) {pc : Nat} {H : Heap} {ls : Array Slot} (hdg : decode code pc = .ok (.ireturn, 1)) : W p l e room_1 s m #[Value.ref b] below meth c H [] 600000 7302250 (lw_Z below #[Value.ref b] s) (F0 m pc ls [.int 1]) := by
  intro T hT X
  obtain ⟨fs, hret, hrun, hended, hW, hframe⟩ := X.leave (v := some (.int 1)) (hlocks := hlocks) (fun h => by rw [hr] at h; cases h)
  have hmeth' : T.vm.method? m = some meth := X.method'
  refine ⟨T.setFrames fs, ?_, .returned (some (.int 1)), hrun, hended, rfl, ⟨_, rfl⟩, hW, hframe⟩
  jvm_step X.here [X.here.top, hx, hb, hdg, hmeth', hr, ret, narrow_b1]
  (try refine ⟨rfl, ?_⟩); (try refine ⟨rfl, ?_⟩)
  first | (intro acts; rw [hret _ acts rfl rfl rfl]) | rw [hret _ _ rfl rfl rfl]
  exact Steps.refl _
/-- what holds at the law's entry: the machine, the code, the tables' words (any of lw_tbl by 'hts w (by decide +kernel)'), the script of L ints xs at the cell b, what the Statement gives of the start (any of its parts by flat_of_before) -/
def lw_At (p : Program) (s : State) (m : MethodId) (meth : Method) (c : Code) (b L : Nat) (xs : Nat → Int32) : Prop :=
  p.tables.exec = Jvm.exec ∧ c.code = code ∧ meth.sig.returnType = ret ∧ c.maxLocals = 4 ∧ s.vm.findClass R_law = some m.cls ∧ (∀ w ∈ lw_tbl, w.before #[Value.ref b] s = true) ∧ va_X b L xs s s.heap ∧ b < s.heap.size ∧ meth.locks = false ∧ (Jvm.Cond.and given_1 narrow_1).before #[Value.ref b] s = true
def b_L_law_38 (q38 : Option Nat → Option Nat → Option Nat → Int32 → Mem → Option (Int32 × Mem)) (r0 : Option Nat) (r1 : Option Nat) (r2 : Option Nat) (i3 : Int32) (M : Mem) : Option (Int32 × Mem) :=
aN M r0 fun v1 =>
(if (v1 - (6 : Int32)) < i3 then
some ((1 : Int32), M)
else
aI M r0 8 i3 fun v2 =>
(if (v2 &&& (31 : Int32)) = (0 : Int32) then
aI M r0 8 (i3 + (1 : Int32)) fun v141 =>
aI M r0 8 (i3 + (2 : Int32)) fun v142 =>
aI M r0 8 (i3 + (3 : Int32)) fun v143 =>
cR M r1 (1, 11) (cA (f_X11_piece r1 v141 v142 v143 M) fun v144 M57 =>
aI M57 r0 8 (i3 + (1 : Int32)) fun v145 =>
aI M57 r0 8 (i3 + (2 : Int32)) fun v146 =>
aI M57 r0 8 (i3 + (3 : Int32)) fun v147 =>
cR M57 r2 (1, 12) (cA (f_X12_piece r2 v145 v146 v147 M57) fun v148 M58 =>
(if v144 = v148 then
q38 r0 r1 r2 (i3 + (6 : Int32)) M58
else
some ((0 : Int32), M58))))
else
(if (v2 &&& (31 : Int32)) = (1 : Int32) then
aI M r0 8 (i3 + (1 : Int32)) fun v135 =>
aI M r0 8 (i3 + (2 : Int32)) fun v136 =>
cR M r1 (1, 11) (cA (f_X11_heap r1 v135 v136 M) fun v137 M55 =>
aI M55 r0 8 (i3 + (1 : Int32)) fun v138 =>
aI M55 r0 8 (i3 + (2 : Int32)) fun v139 =>
cR M55 r2 (1, 12) (cA (f_X12_heap r2 v138 v139 M55) fun v140 M56 =>
(if v137 = v140 then
q38 r0 r1 r2 (i3 + (6 : Int32)) M56
else
some ((0 : Int32), M56))))
else
(if (v2 &&& (31 : Int32)) = (2 : Int32) then
aI M r0 8 (i3 + (1 : Int32)) fun v131 =>
cR M r1 (1, 11) (cA (f_X11_turn r1 v131 M) fun v132 M53 =>
aI M53 r0 8 (i3 + (1 : Int32)) fun v133 =>
cR M53 r2 (1, 12) (cA (f_X12_turn r2 v133 M53) fun v134 M54 =>
(if v132 = v134 then
q38 r0 r1 r2 (i3 + (6 : Int32)) M54
else
some ((0 : Int32), M54))))
else
(if (v2 &&& (31 : Int32)) = (3 : Int32) then
aI M r0 8 (i3 + (1 : Int32)) fun v119 =>
aI M r0 8 (i3 + (2 : Int32)) fun v120 =>
aI M r0 8 (i3 + (3 : Int32)) fun v121 =>
aI M r0 8 (i3 + (4 : Int32)) fun v122 =>
aI M r0 8 (i3 + (5 : Int32)) fun v123 =>
cR M r1 (1, 11) (cA (f_X11_feed r1 v119 v120 v121 v122 v123 M) fun v124 M51 =>
aI M51 r0 8 (i3 + (1 : Int32)) fun v125 =>
aI M51 r0 8 (i3 + (2 : Int32)) fun v126 =>
aI M51 r0 8 (i3 + (3 : Int32)) fun v127 =>
aI M51 r0 8 (i3 + (4 : Int32)) fun v128 =>
aI M51 r0 8 (i3 + (5 : Int32)) fun v129 =>
cR M51 r2 (1, 12) (cA (f_X12_feed r2 v125 v126 v127 v128 v129 M51) fun v130 M52 =>
(if v124 = v130 then
q38 r0 r1 r2 (i3 + (6 : Int32)) M52
else
some ((0 : Int32), M52))))
else
(if (v2 &&& (31 : Int32)) = (4 : Int32) then
aI M r0 8 (i3 + (1 : Int32)) fun v115 =>
cR M r1 (1, 11) (cA (f_X11_end r1 v115 M) fun v116 M49 =>
aI M49 r0 8 (i3 + (1 : Int32)) fun v117 =>
cR M49 r2 (1, 12) (cA (f_X12_end r2 v117 M49) fun v118 M50 =>
(if v116 = v118 then
q38 r0 r1 r2 (i3 + (6 : Int32)) M50
else
some ((0 : Int32), M50))))
else
(if (v2 &&& (31 : Int32)) = (5 : Int32) then
cR M r1 (1, 11) (cA (f_X11_text r1 M) fun v113 M47 =>
cR M47 r2 (1, 12) (cA (f_X12_text r2 M47) fun v114 M48 =>
(if v113 = v114 then
q38 r0 r1 r2 (i3 + (6 : Int32)) M48
else
some ((0 : Int32), M48))))
else
(if (v2 &&& (31 : Int32)) = (6 : Int32) then
aI M r0 8 (i3 + (1 : Int32)) fun v109 =>
cR M r1 (1, 11) (cA (f_X11_fault r1 v109 M) fun v110 M45 =>
aI M45 r0 8 (i3 + (1 : Int32)) fun v111 =>
cR M45 r2 (1, 12) (cA (f_X12_fault r2 v111 M45) fun v112 M46 =>
(if v110 = v112 then
q38 r0 r1 r2 (i3 + (6 : Int32)) M46
else
some ((0 : Int32), M46))))
else
(if (v2 &&& (31 : Int32)) = (7 : Int32) then
aI M r0 8 (i3 + (1 : Int32)) fun v105 =>
cR M r1 (1, 11) (cA (f_X11_book r1 v105 M) fun v106 M43 =>
aI M43 r0 8 (i3 + (1 : Int32)) fun v107 =>
cR M43 r2 (1, 12) (cA (f_X12_book r2 v107 M43) fun v108 M44 =>
(if v106 = v108 then
q38 r0 r1 r2 (i3 + (6 : Int32)) M44
else
some ((0 : Int32), M44))))
else
(if (v2 &&& (31 : Int32)) = (8 : Int32) then
aI M r0 8 (i3 + (1 : Int32)) fun v99 =>
aI M r0 8 (i3 + (2 : Int32)) fun v100 =>
cR M r1 (1, 11) (cA (f_X11_way r1 v99 v100 M) fun v101 M41 =>
aI M41 r0 8 (i3 + (1 : Int32)) fun v102 =>
aI M41 r0 8 (i3 + (2 : Int32)) fun v103 =>
cR M41 r2 (1, 12) (cA (f_X12_way r2 v102 v103 M41) fun v104 M42 =>
(if v101 = v104 then
q38 r0 r1 r2 (i3 + (6 : Int32)) M42
else
some ((0 : Int32), M42))))
else
(if (v2 &&& (31 : Int32)) = (9 : Int32) then
aI M r0 8 (i3 + (1 : Int32)) fun v93 =>
aI M r0 8 (i3 + (2 : Int32)) fun v94 =>
cR M r1 (1, 11) (cA (f_X11_can r1 v93 v94 M) fun v95 M39 =>
aI M39 r0 8 (i3 + (1 : Int32)) fun v96 =>
aI M39 r0 8 (i3 + (2 : Int32)) fun v97 =>
cR M39 r2 (1, 12) (cA (f_X12_can r2 v96 v97 M39) fun v98 M40 =>
(if v95 = v98 then
q38 r0 r1 r2 (i3 + (6 : Int32)) M40
else
some ((0 : Int32), M40))))
else
(if (v2 &&& (31 : Int32)) = (10 : Int32) then
aI M r0 8 (i3 + (1 : Int32)) fun v89 =>
cR M r1 (1, 11) (cA (f_X11_offers r1 v89 M) fun v90 M37 =>
aI M37 r0 8 (i3 + (1 : Int32)) fun v91 =>
cR M37 r2 (1, 12) (cA (f_X12_offers r2 v91 M37) fun v92 M38 =>
(if v90 = v92 then
q38 r0 r1 r2 (i3 + (6 : Int32)) M38
else
some ((0 : Int32), M38))))
else
(if (v2 &&& (31 : Int32)) = (11 : Int32) then
aI M r0 8 (i3 + (1 : Int32)) fun v77 =>
aI M r0 8 (i3 + (2 : Int32)) fun v78 =>
aI M r0 8 (i3 + (3 : Int32)) fun v79 =>
aI M r0 8 (i3 + (4 : Int32)) fun v80 =>
aI M r0 8 (i3 + (5 : Int32)) fun v81 =>
cR M r1 (1, 11) (cA (f_X11_play r1 v77 v78 v79 v80 v81 M) fun v82 M35 =>
aI M35 r0 8 (i3 + (1 : Int32)) fun v83 =>
aI M35 r0 8 (i3 + (2 : Int32)) fun v84 =>
aI M35 r0 8 (i3 + (3 : Int32)) fun v85 =>
aI M35 r0 8 (i3 + (4 : Int32)) fun v86 =>
aI M35 r0 8 (i3 + (5 : Int32)) fun v87 =>
cR M35 r2 (1, 12) (cA (f_X12_play r2 v83 v84 v85 v86 v87 M35) fun v88 M36 =>
(if v82 = v88 then
q38 r0 r1 r2 (i3 + (6 : Int32)) M36
else
some ((0 : Int32), M36))))
else
(if (v2 &&& (31 : Int32)) = (12 : Int32) then
aI M r0 8 (i3 + (1 : Int32)) fun v73 =>
cR M r1 (1, 11) (cA (f_X11_run r1 v73 M) fun v74 M33 =>
aI M33 r0 8 (i3 + (1 : Int32)) fun v75 =>
cR M33 r2 (1, 12) (cA (f_X12_run r2 v75 M33) fun v76 M34 =>
(if v74 = v76 then
q38 r0 r1 r2 (i3 + (6 : Int32)) M34
else
some ((0 : Int32), M34))))
else
(if (v2 &&& (31 : Int32)) = (13 : Int32) then
cR M r1 (1, 11) (cA (f_X11_won r1 M) fun v71 M31 =>
cR M31 r2 (1, 12) (cA (f_X12_won r2 M31) fun v72 M32 =>
(if v71 = v72 then
q38 r0 r1 r2 (i3 + (6 : Int32)) M32
else
some ((0 : Int32), M32))))
else
(if (v2 &&& (31 : Int32)) = (14 : Int32) then
aI M r0 8 (i3 + (1 : Int32)) fun v59 =>
aI M r0 8 (i3 + (2 : Int32)) fun v60 =>
aI M r0 8 (i3 + (3 : Int32)) fun v61 =>
aI M r0 8 (i3 + (4 : Int32)) fun v62 =>
aI M r0 8 (i3 + (5 : Int32)) fun v63 =>
cR M r1 (1, 11) (cA (f_X11_ply r1 v59 v60 v61 v62 v63 M) fun v64 M29 =>
aI M29 r0 8 (i3 + (1 : Int32)) fun v65 =>
aI M29 r0 8 (i3 + (2 : Int32)) fun v66 =>
aI M29 r0 8 (i3 + (3 : Int32)) fun v67 =>
aI M29 r0 8 (i3 + (4 : Int32)) fun v68 =>
aI M29 r0 8 (i3 + (5 : Int32)) fun v69 =>
cR M29 r2 (1, 12) (cA (f_X12_ply r2 v65 v66 v67 v68 v69 M29) fun v70 M30 =>
(if v64 = v70 then
q38 r0 r1 r2 (i3 + (6 : Int32)) M30
else
some ((0 : Int32), M30))))
else
(if (v2 &&& (31 : Int32)) = (15 : Int32) then
cR M r1 (1, 11) (cA (f_X11_judge r1 M) fun v57 M27 =>
cR M27 r2 (1, 12) (cA (f_X12_judge r2 M27) fun v58 M28 =>
(if v57 = v58 then
q38 r0 r1 r2 (i3 + (6 : Int32)) M28
else
some ((0 : Int32), M28))))
else
(if (v2 &&& (31 : Int32)) = (16 : Int32) then
cR M r1 (1, 11) (cA (f_X11_again r1 M) fun v55 M25 =>
cR M25 r2 (1, 12) (cA (f_X12_again r2 M25) fun v56 M26 =>
(if v55 = v56 then
q38 r0 r1 r2 (i3 + (6 : Int32)) M26
else
some ((0 : Int32), M26))))
else
(if (v2 &&& (31 : Int32)) = (17 : Int32) then
aI M r0 8 (i3 + (1 : Int32)) fun v49 =>
aI M r0 8 (i3 + (2 : Int32)) fun v50 =>
cR M r1 (1, 11) (cA (f_X11_match r1 v49 v50 M) fun v51 M23 =>
aI M23 r0 8 (i3 + (1 : Int32)) fun v52 =>
aI M23 r0 8 (i3 + (2 : Int32)) fun v53 =>
cR M23 r2 (1, 12) (cA (f_X12_match r2 v52 v53 M23) fun v54 M24 =>
(if v51 = v54 then
q38 r0 r1 r2 (i3 + (6 : Int32)) M24
else
some ((0 : Int32), M24))))
else
(if (v2 &&& (31 : Int32)) = (18 : Int32) then
aI M r0 8 (i3 + (1 : Int32)) fun v41 =>
aI M r0 8 (i3 + (2 : Int32)) fun v42 =>
aI M r0 8 (i3 + (3 : Int32)) fun v43 =>
cR M r1 (1, 11) (cA (f_X11_drawn r1 v41 v42 v43 M) fun v44 M21 =>
aI M21 r0 8 (i3 + (1 : Int32)) fun v45 =>
aI M21 r0 8 (i3 + (2 : Int32)) fun v46 =>
aI M21 r0 8 (i3 + (3 : Int32)) fun v47 =>
cR M21 r2 (1, 12) (cA (f_X12_drawn r2 v45 v46 v47 M21) fun v48 M22 =>
(if v44 = v48 then
q38 r0 r1 r2 (i3 + (6 : Int32)) M22
else
some ((0 : Int32), M22))))
else
(if (v2 &&& (31 : Int32)) = (19 : Int32) then
cR M r1 (1, 11) (cA (f_X11_states r1 M) fun v39 M19 =>
cR M19 r2 (1, 12) (cA (f_X12_states r2 M19) fun v40 M20 =>
(if v39 = v40 then
q38 r0 r1 r2 (i3 + (6 : Int32)) M20
else
some ((0 : Int32), M20))))
else
(if (v2 &&& (31 : Int32)) = (20 : Int32) then
aI M r0 8 (i3 + (1 : Int32)) fun v35 =>
cR M r1 (1, 11) (cA (f_X11_best r1 v35 M) fun v36 M17 =>
aI M17 r0 8 (i3 + (1 : Int32)) fun v37 =>
cR M17 r2 (1, 12) (cA (f_X12_best r2 v37 M17) fun v38 M18 =>
(if v36 = v38 then
q38 r0 r1 r2 (i3 + (6 : Int32)) M18
else
some ((0 : Int32), M18))))
else
(if (v2 &&& (31 : Int32)) = (21 : Int32) then
aI M r0 8 (i3 + (1 : Int32)) fun v31 =>
cR M r1 (1, 11) (cA (f_X11_good r1 v31 M) fun v32 M15 =>
aI M15 r0 8 (i3 + (1 : Int32)) fun v33 =>
cR M15 r2 (1, 12) (cA (f_X12_good r2 v33 M15) fun v34 M16 =>
(if v32 = v34 then
q38 r0 r1 r2 (i3 + (6 : Int32)) M16
else
some ((0 : Int32), M16))))
else
(if (v2 &&& (31 : Int32)) = (22 : Int32) then
aI M r0 8 (i3 + (1 : Int32)) fun v23 =>
aI M r0 8 (i3 + (2 : Int32)) fun v24 =>
aI M r0 8 (i3 + (3 : Int32)) fun v25 =>
cR M r1 (1, 11) (cA (f_X11_loses r1 v23 v24 v25 M) fun v26 M13 =>
aI M13 r0 8 (i3 + (1 : Int32)) fun v27 =>
aI M13 r0 8 (i3 + (2 : Int32)) fun v28 =>
aI M13 r0 8 (i3 + (3 : Int32)) fun v29 =>
cR M13 r2 (1, 12) (cA (f_X12_loses r2 v27 v28 v29 M13) fun v30 M14 =>
(if v26 = v30 then
q38 r0 r1 r2 (i3 + (6 : Int32)) M14
else
some ((0 : Int32), M14))))
else
(if (v2 &&& (31 : Int32)) = (23 : Int32) then
aI M r0 8 (i3 + (1 : Int32)) fun v17 =>
aI M r0 8 (i3 + (2 : Int32)) fun v18 =>
cR M r1 (1, 11) (cA (f_X11_line r1 v17 v18 M) fun v19 M11 =>
aI M11 r0 8 (i3 + (1 : Int32)) fun v20 =>
aI M11 r0 8 (i3 + (2 : Int32)) fun v21 =>
cR M11 r2 (1, 12) (cA (f_X12_line r2 v20 v21 M11) fun v22 M12 =>
(if v19 = v22 then
q38 r0 r1 r2 (i3 + (6 : Int32)) M12
else
some ((0 : Int32), M12))))
else
(if (v2 &&& (31 : Int32)) = (24 : Int32) then
cR M r1 (1, 11) (cA (f_X11_runs r1 M) fun v15 M9 =>
cR M9 r2 (1, 12) (cA (f_X12_runs r2 M9) fun v16 M10 =>
(if v15 = v16 then
q38 r0 r1 r2 (i3 + (6 : Int32)) M10
else
some ((0 : Int32), M10))))
else
(if (v2 &&& (31 : Int32)) = (25 : Int32) then
aI M r0 8 (i3 + (1 : Int32)) fun v11 =>
cR M r1 (1, 11) (cA (f_X11_balanced r1 v11 M) fun v12 M7 =>
aI M7 r0 8 (i3 + (1 : Int32)) fun v13 =>
cR M7 r2 (1, 12) (cA (f_X12_balanced r2 v13 M7) fun v14 M8 =>
(if v12 = v14 then
q38 r0 r1 r2 (i3 + (6 : Int32)) M8
else
some ((0 : Int32), M8))))
else
(if (v2 &&& (31 : Int32)) = (26 : Int32) then
cR M r1 (1, 11) (cA (f_X11_image r1 M) fun v9 M5 =>
cR M5 r2 (1, 12) (cA (f_X12_image r2 M5) fun v10 M6 =>
(if v9 = v10 then
q38 r0 r1 r2 (i3 + (6 : Int32)) M6
else
some ((0 : Int32), M6))))
else
(if (v2 &&& (31 : Int32)) = (27 : Int32) then
cR M r1 (1, 11) (cA (f_X11_back r1 M) fun v7 M3 =>
cR M3 r2 (1, 12) (cA (f_X12_back r2 M3) fun v8 M4 =>
(if v7 = v8 then
q38 r0 r1 r2 (i3 + (6 : Int32)) M4
else
some ((0 : Int32), M4))))
else
(if (v2 &&& (31 : Int32)) = (28 : Int32) then
aI M r0 8 (i3 + (1 : Int32)) fun v3 =>
cR M r1 (1, 11) (cA (f_X11_about r1 v3 M) fun v4 M1 =>
aI M1 r0 8 (i3 + (1 : Int32)) fun v5 =>
cR M1 r2 (1, 12) (cA (f_X12_about r2 v5 M1) fun v6 M2 =>
(if v4 = v6 then
q38 r0 r1 r2 (i3 + (6 : Int32)) M2
else
some ((0 : Int32), M2))))
else
q38 r0 r1 r2 (i3 + (6 : Int32)) M))))))))))))))))))))))))))))))
def f_L_law_38 (n : Nat) : Option Nat → Option Nat → Option Nat → Int32 → Mem → Option (Int32 × Mem) := lpN (fun _ _ _ _ _ => none) (b_L_law_38 ) n
def f_L_law (r0 : Option Nat) (M : Mem) : Option (Int32 × Mem) :=
nW M 11 fun v1 M1 =>
cA (f_L_cell r0 (0 : Int32) M1) fun v2 M2 =>
cA (f_L_cell r0 (1 : Int32) M2) fun v3 M3 =>
cN v1 (fun _ => cA (f_X11_init v1 v2 v3 M3) fun _ M4 =>
nW M4 12 fun v4 M5 =>
cA (f_L_cell r0 (0 : Int32) M5) fun v5 M6 =>
cA (f_L_cell r0 (1 : Int32) M6) fun v6 M7 =>
cN v4 (fun _ => cA (f_X12_init v4 v5 v6 M7) fun _ M8 =>
f_L_law_38 FU r0 v1 v4 (2 : Int32) M8))
set_option maxRecDepth 30000 in
theorem ok_X11_about : okY Y_X11_about := ⟨(gw_in 1099 rfl rfl), (gw_in 1 (by decide +kernel) (by decide +kernel)), by decide +kernel, by decide +kernel⟩
theorem ml_RL_142 : MLv "GameOfNoesLaw" 142 Y_X11_about 1 := ⟨(gw_in 1096 (by decide +kernel) (by decide +kernel)), (gw_in 1097 (by decide +kernel) (by decide +kernel)), (gw_in 1098 (by decide +kernel) (by decide +kernel)), ok_X11_about, by decide +kernel⟩
set_option maxRecDepth 30000 in
theorem ok_X12_about : okY Y_X12_about := ⟨(gw_in 1797 rfl rfl), (gw_in 14 (by decide +kernel) (by decide +kernel)), by decide +kernel, by decide +kernel⟩
theorem ml_RL_145 : MLv "GameOfNoesLaw" 145 Y_X12_about 1 := ⟨(gw_in 1794 (by decide +kernel) (by decide +kernel)), (gw_in 1795 (by decide +kernel) (by decide +kernel)), (gw_in 1796 (by decide +kernel) (by decide +kernel)), ok_X12_about, by decide +kernel⟩
set_option maxRecDepth 30000 in
theorem ok_X11_back : okY Y_X11_back := ⟨(gw_in 1091 rfl rfl), (gw_in 1 (by decide +kernel) (by decide +kernel)), by decide +kernel, by decide +kernel⟩
theorem ml_RL_138 : MLv "GameOfNoesLaw" 138 Y_X11_back 0 := ⟨(gw_in 1088 (by decide +kernel) (by decide +kernel)), (gw_in 1089 (by decide +kernel) (by decide +kernel)), (gw_in 1090 (by decide +kernel) (by decide +kernel)), ok_X11_back, by decide +kernel⟩
set_option maxRecDepth 30000 in
theorem ok_X12_back : okY Y_X12_back := ⟨(gw_in 1793 rfl rfl), (gw_in 14 (by decide +kernel) (by decide +kernel)), by decide +kernel, by decide +kernel⟩
theorem ml_RL_141 : MLv "GameOfNoesLaw" 141 Y_X12_back 0 := ⟨(gw_in 1790 (by decide +kernel) (by decide +kernel)), (gw_in 1791 (by decide +kernel) (by decide +kernel)), (gw_in 1792 (by decide +kernel) (by decide +kernel)), ok_X12_back, by decide +kernel⟩
set_option maxRecDepth 30000 in
theorem ok_X11_image : okY Y_X11_image := ⟨(gw_in 1074 rfl rfl), (gw_in 1 (by decide +kernel) (by decide +kernel)), by decide +kernel, by decide +kernel⟩
theorem ml_RL_134 : MLv "GameOfNoesLaw" 134 Y_X11_image 0 := ⟨(gw_in 1071 (by decide +kernel) (by decide +kernel)), (gw_in 1072 (by decide +kernel) (by decide +kernel)), (gw_in 1073 (by decide +kernel) (by decide +kernel)), ok_X11_image, by decide +kernel⟩
set_option maxRecDepth 30000 in
theorem ok_X12_image : okY Y_X12_image := ⟨(gw_in 1785 rfl rfl), (gw_in 14 (by decide +kernel) (by decide +kernel)), by decide +kernel, by decide +kernel⟩
theorem ml_RL_137 : MLv "GameOfNoesLaw" 137 Y_X12_image 0 := ⟨(gw_in 1782 (by decide +kernel) (by decide +kernel)), (gw_in 1783 (by decide +kernel) (by decide +kernel)), (gw_in 1784 (by decide +kernel) (by decide +kernel)), ok_X12_image, by decide +kernel⟩
set_option maxRecDepth 30000 in
theorem ok_X11_balanced : okY Y_X11_balanced := ⟨(gw_in 1070 rfl rfl), (gw_in 1 (by decide +kernel) (by decide +kernel)), by decide +kernel, by decide +kernel⟩
theorem ml_RL_130 : MLv "GameOfNoesLaw" 130 Y_X11_balanced 1 := ⟨(gw_in 1067 (by decide +kernel) (by decide +kernel)), (gw_in 1068 (by decide +kernel) (by decide +kernel)), (gw_in 1069 (by decide +kernel) (by decide +kernel)), ok_X11_balanced, by decide +kernel⟩
set_option maxRecDepth 30000 in
theorem ok_X12_balanced : okY Y_X12_balanced := ⟨(gw_in 1781 rfl rfl), (gw_in 14 (by decide +kernel) (by decide +kernel)), by decide +kernel, by decide +kernel⟩
theorem ml_RL_133 : MLv "GameOfNoesLaw" 133 Y_X12_balanced 1 := ⟨(gw_in 1778 (by decide +kernel) (by decide +kernel)), (gw_in 1779 (by decide +kernel) (by decide +kernel)), (gw_in 1780 (by decide +kernel) (by decide +kernel)), ok_X12_balanced, by decide +kernel⟩
set_option maxRecDepth 30000 in
theorem ok_X11_runs : okY Y_X11_runs := ⟨(gw_in 1061 rfl rfl), (gw_in 1 (by decide +kernel) (by decide +kernel)), by decide +kernel, by decide +kernel⟩
theorem ml_RL_126 : MLv "GameOfNoesLaw" 126 Y_X11_runs 0 := ⟨(gw_in 1058 (by decide +kernel) (by decide +kernel)), (gw_in 1059 (by decide +kernel) (by decide +kernel)), (gw_in 1060 (by decide +kernel) (by decide +kernel)), ok_X11_runs, by decide +kernel⟩
set_option maxRecDepth 30000 in
theorem ok_X12_runs : okY Y_X12_runs := ⟨(gw_in 1773 rfl rfl), (gw_in 14 (by decide +kernel) (by decide +kernel)), by decide +kernel, by decide +kernel⟩
theorem ml_RL_129 : MLv "GameOfNoesLaw" 129 Y_X12_runs 0 := ⟨(gw_in 1770 (by decide +kernel) (by decide +kernel)), (gw_in 1771 (by decide +kernel) (by decide +kernel)), (gw_in 1772 (by decide +kernel) (by decide +kernel)), ok_X12_runs, by decide +kernel⟩
set_option maxRecDepth 30000 in
theorem ok_X11_line : okY Y_X11_line := ⟨(gw_in 1029 rfl rfl), (gw_in 1 (by decide +kernel) (by decide +kernel)), by decide +kernel, by decide +kernel⟩
theorem ml_RL_122 : MLv "GameOfNoesLaw" 122 Y_X11_line 2 := ⟨(gw_in 1026 (by decide +kernel) (by decide +kernel)), (gw_in 1027 (by decide +kernel) (by decide +kernel)), (gw_in 1028 (by decide +kernel) (by decide +kernel)), ok_X11_line, by decide +kernel⟩
set_option maxRecDepth 30000 in
theorem ok_X12_line : okY Y_X12_line := ⟨(gw_in 1758 rfl rfl), (gw_in 14 (by decide +kernel) (by decide +kernel)), by decide +kernel, by decide +kernel⟩
theorem ml_RL_125 : MLv "GameOfNoesLaw" 125 Y_X12_line 2 := ⟨(gw_in 1755 (by decide +kernel) (by decide +kernel)), (gw_in 1756 (by decide +kernel) (by decide +kernel)), (gw_in 1757 (by decide +kernel) (by decide +kernel)), ok_X12_line, by decide +kernel⟩
set_option maxRecDepth 30000 in
theorem ok_X11_loses : okY Y_X11_loses := ⟨(gw_in 1024 rfl rfl), (gw_in 1 (by decide +kernel) (by decide +kernel)), by decide +kernel, by decide +kernel⟩
theorem ml_RL_118 : MLv "GameOfNoesLaw" 118 Y_X11_loses 3 := ⟨(gw_in 1021 (by decide +kernel) (by decide +kernel)), (gw_in 1022 (by decide +kernel) (by decide +kernel)), (gw_in 1023 (by decide +kernel) (by decide +kernel)), ok_X11_loses, by decide +kernel⟩
set_option maxRecDepth 30000 in
theorem ok_X12_loses : okY Y_X12_loses := ⟨(gw_in 1754 rfl rfl), (gw_in 14 (by decide +kernel) (by decide +kernel)), by decide +kernel, by decide +kernel⟩
theorem ml_RL_121 : MLv "GameOfNoesLaw" 121 Y_X12_loses 3 := ⟨(gw_in 1751 (by decide +kernel) (by decide +kernel)), (gw_in 1752 (by decide +kernel) (by decide +kernel)), (gw_in 1753 (by decide +kernel) (by decide +kernel)), ok_X12_loses, by decide +kernel⟩
set_option maxRecDepth 30000 in
theorem ok_X11_good : okY Y_X11_good := ⟨(gw_in 1015 rfl rfl), (gw_in 1 (by decide +kernel) (by decide +kernel)), by decide +kernel, by decide +kernel⟩
theorem ml_RL_114 : MLv "GameOfNoesLaw" 114 Y_X11_good 1 := ⟨(gw_in 1012 (by decide +kernel) (by decide +kernel)), (gw_in 1013 (by decide +kernel) (by decide +kernel)), (gw_in 1014 (by decide +kernel) (by decide +kernel)), ok_X11_good, by decide +kernel⟩
set_option maxRecDepth 30000 in
theorem ok_X12_good : okY Y_X12_good := ⟨(gw_in 1746 rfl rfl), (gw_in 14 (by decide +kernel) (by decide +kernel)), by decide +kernel, by decide +kernel⟩
theorem ml_RL_117 : MLv "GameOfNoesLaw" 117 Y_X12_good 1 := ⟨(gw_in 1743 (by decide +kernel) (by decide +kernel)), (gw_in 1744 (by decide +kernel) (by decide +kernel)), (gw_in 1745 (by decide +kernel) (by decide +kernel)), ok_X12_good, by decide +kernel⟩
set_option maxRecDepth 30000 in
theorem ok_X11_best : okY Y_X11_best := ⟨(gw_in 1011 rfl rfl), (gw_in 1 (by decide +kernel) (by decide +kernel)), by decide +kernel, by decide +kernel⟩
theorem ml_RL_110 : MLv "GameOfNoesLaw" 110 Y_X11_best 1 := ⟨(gw_in 1008 (by decide +kernel) (by decide +kernel)), (gw_in 1009 (by decide +kernel) (by decide +kernel)), (gw_in 1010 (by decide +kernel) (by decide +kernel)), ok_X11_best, by decide +kernel⟩
set_option maxRecDepth 30000 in
theorem ok_X12_best : okY Y_X12_best := ⟨(gw_in 1714 rfl rfl), (gw_in 14 (by decide +kernel) (by decide +kernel)), by decide +kernel, by decide +kernel⟩
theorem ml_RL_113 : MLv "GameOfNoesLaw" 113 Y_X12_best 1 := ⟨(gw_in 1711 (by decide +kernel) (by decide +kernel)), (gw_in 1712 (by decide +kernel) (by decide +kernel)), (gw_in 1713 (by decide +kernel) (by decide +kernel)), ok_X12_best, by decide +kernel⟩
set_option maxRecDepth 30000 in
theorem ok_X11_states : okY Y_X11_states := ⟨(gw_in 935 rfl rfl), (gw_in 1 (by decide +kernel) (by decide +kernel)), by decide +kernel, by decide +kernel⟩
theorem ml_RL_106 : MLv "GameOfNoesLaw" 106 Y_X11_states 0 := ⟨(gw_in 932 (by decide +kernel) (by decide +kernel)), (gw_in 933 (by decide +kernel) (by decide +kernel)), (gw_in 934 (by decide +kernel) (by decide +kernel)), ok_X11_states, by decide +kernel⟩
set_option maxRecDepth 30000 in
theorem ok_X12_states : okY Y_X12_states := ⟨(gw_in 1690 rfl rfl), (gw_in 14 (by decide +kernel) (by decide +kernel)), by decide +kernel, by decide +kernel⟩
theorem ml_RL_109 : MLv "GameOfNoesLaw" 109 Y_X12_states 0 := ⟨(gw_in 1687 (by decide +kernel) (by decide +kernel)), (gw_in 1688 (by decide +kernel) (by decide +kernel)), (gw_in 1689 (by decide +kernel) (by decide +kernel)), ok_X12_states, by decide +kernel⟩
set_option maxRecDepth 30000 in
theorem ok_X11_drawn : okY Y_X11_drawn := ⟨(gw_in 920 rfl rfl), (gw_in 1 (by decide +kernel) (by decide +kernel)), by decide +kernel, by decide +kernel⟩
theorem ml_RL_101 : MLv "GameOfNoesLaw" 101 Y_X11_drawn 3 := ⟨(gw_in 917 (by decide +kernel) (by decide +kernel)), (gw_in 918 (by decide +kernel) (by decide +kernel)), (gw_in 919 (by decide +kernel) (by decide +kernel)), ok_X11_drawn, by decide +kernel⟩
set_option maxRecDepth 30000 in
theorem ok_X12_drawn : okY Y_X12_drawn := ⟨(gw_in 1678 rfl rfl), (gw_in 14 (by decide +kernel) (by decide +kernel)), by decide +kernel, by decide +kernel⟩
theorem ml_RL_105 : MLv "GameOfNoesLaw" 105 Y_X12_drawn 3 := ⟨(gw_in 1675 (by decide +kernel) (by decide +kernel)), (gw_in 1676 (by decide +kernel) (by decide +kernel)), (gw_in 1677 (by decide +kernel) (by decide +kernel)), ok_X12_drawn, by decide +kernel⟩
set_option maxRecDepth 30000 in
theorem ok_X11_match : okY Y_X11_match := ⟨(gw_in 916 rfl rfl), (gw_in 1 (by decide +kernel) (by decide +kernel)), by decide +kernel, by decide +kernel⟩
theorem ml_RL_97 : MLv "GameOfNoesLaw" 97 Y_X11_match 2 := ⟨(gw_in 913 (by decide +kernel) (by decide +kernel)), (gw_in 914 (by decide +kernel) (by decide +kernel)), (gw_in 915 (by decide +kernel) (by decide +kernel)), ok_X11_match, by decide +kernel⟩
set_option maxRecDepth 30000 in
theorem ok_X12_match : okY Y_X12_match := ⟨(gw_in 1674 rfl rfl), (gw_in 14 (by decide +kernel) (by decide +kernel)), by decide +kernel, by decide +kernel⟩
theorem ml_RL_100 : MLv "GameOfNoesLaw" 100 Y_X12_match 2 := ⟨(gw_in 1671 (by decide +kernel) (by decide +kernel)), (gw_in 1672 (by decide +kernel) (by decide +kernel)), (gw_in 1673 (by decide +kernel) (by decide +kernel)), ok_X12_match, by decide +kernel⟩
set_option maxRecDepth 30000 in
theorem ok_X11_again : okY Y_X11_again := ⟨(gw_in 900 rfl rfl), (gw_in 1 (by decide +kernel) (by decide +kernel)), by decide +kernel, by decide +kernel⟩
theorem ml_RL_93 : MLv "GameOfNoesLaw" 93 Y_X11_again 0 := ⟨(gw_in 897 (by decide +kernel) (by decide +kernel)), (gw_in 898 (by decide +kernel) (by decide +kernel)), (gw_in 899 (by decide +kernel) (by decide +kernel)), ok_X11_again, by decide +kernel⟩
set_option maxRecDepth 30000 in
theorem ok_X12_again : okY Y_X12_again := ⟨(gw_in 1670 rfl rfl), (gw_in 14 (by decide +kernel) (by decide +kernel)), by decide +kernel, by decide +kernel⟩
theorem ml_RL_96 : MLv "GameOfNoesLaw" 96 Y_X12_again 0 := ⟨(gw_in 1667 (by decide +kernel) (by decide +kernel)), (gw_in 1668 (by decide +kernel) (by decide +kernel)), (gw_in 1669 (by decide +kernel) (by decide +kernel)), ok_X12_again, by decide +kernel⟩
set_option maxRecDepth 30000 in
theorem ok_X11_judge : okY Y_X11_judge := ⟨(gw_in 888 rfl rfl), (gw_in 1 (by decide +kernel) (by decide +kernel)), by decide +kernel, by decide +kernel⟩
theorem ml_RL_89 : MLv "GameOfNoesLaw" 89 Y_X11_judge 0 := ⟨(gw_in 885 (by decide +kernel) (by decide +kernel)), (gw_in 886 (by decide +kernel) (by decide +kernel)), (gw_in 887 (by decide +kernel) (by decide +kernel)), ok_X11_judge, by decide +kernel⟩
set_option maxRecDepth 30000 in
theorem ok_X12_judge : okY Y_X12_judge := ⟨(gw_in 1653 rfl rfl), (gw_in 14 (by decide +kernel) (by decide +kernel)), by decide +kernel, by decide +kernel⟩
theorem ml_RL_92 : MLv "GameOfNoesLaw" 92 Y_X12_judge 0 := ⟨(gw_in 1650 (by decide +kernel) (by decide +kernel)), (gw_in 1651 (by decide +kernel) (by decide +kernel)), (gw_in 1652 (by decide +kernel) (by decide +kernel)), ok_X12_judge, by decide +kernel⟩
set_option maxRecDepth 30000 in
theorem ok_X11_ply : okY Y_X11_ply := ⟨(gw_in 884 rfl rfl), (gw_in 1 (by decide +kernel) (by decide +kernel)), by decide +kernel, by decide +kernel⟩
theorem ml_RL_85 : MLv "GameOfNoesLaw" 85 Y_X11_ply 5 := ⟨(gw_in 881 (by decide +kernel) (by decide +kernel)), (gw_in 882 (by decide +kernel) (by decide +kernel)), (gw_in 883 (by decide +kernel) (by decide +kernel)), ok_X11_ply, by decide +kernel⟩
set_option maxRecDepth 30000 in
theorem ok_X12_ply : okY Y_X12_ply := ⟨(gw_in 1649 rfl rfl), (gw_in 14 (by decide +kernel) (by decide +kernel)), by decide +kernel, by decide +kernel⟩
theorem ml_RL_88 : MLv "GameOfNoesLaw" 88 Y_X12_ply 5 := ⟨(gw_in 1646 (by decide +kernel) (by decide +kernel)), (gw_in 1647 (by decide +kernel) (by decide +kernel)), (gw_in 1648 (by decide +kernel) (by decide +kernel)), ok_X12_ply, by decide +kernel⟩
set_option maxRecDepth 30000 in
theorem ok_X11_won : okY Y_X11_won := ⟨(gw_in 876 rfl rfl), (gw_in 1 (by decide +kernel) (by decide +kernel)), by decide +kernel, by decide +kernel⟩
theorem ml_RL_81 : MLv "GameOfNoesLaw" 81 Y_X11_won 0 := ⟨(gw_in 873 (by decide +kernel) (by decide +kernel)), (gw_in 874 (by decide +kernel) (by decide +kernel)), (gw_in 875 (by decide +kernel) (by decide +kernel)), ok_X11_won, by decide +kernel⟩
set_option maxRecDepth 30000 in
theorem ok_X12_won : okY Y_X12_won := ⟨(gw_in 1645 rfl rfl), (gw_in 14 (by decide +kernel) (by decide +kernel)), by decide +kernel, by decide +kernel⟩
theorem ml_RL_84 : MLv "GameOfNoesLaw" 84 Y_X12_won 0 := ⟨(gw_in 1642 (by decide +kernel) (by decide +kernel)), (gw_in 1643 (by decide +kernel) (by decide +kernel)), (gw_in 1644 (by decide +kernel) (by decide +kernel)), ok_X12_won, by decide +kernel⟩
set_option maxRecDepth 30000 in
theorem ok_X11_run : okY Y_X11_run := ⟨(gw_in 839 rfl rfl), (gw_in 1 (by decide +kernel) (by decide +kernel)), by decide +kernel, by decide +kernel⟩
theorem ml_RL_77 : MLv "GameOfNoesLaw" 77 Y_X11_run 1 := ⟨(gw_in 836 (by decide +kernel) (by decide +kernel)), (gw_in 837 (by decide +kernel) (by decide +kernel)), (gw_in 838 (by decide +kernel) (by decide +kernel)), ok_X11_run, by decide +kernel⟩
set_option maxRecDepth 30000 in
theorem ok_X12_run : okY Y_X12_run := ⟨(gw_in 1610 rfl rfl), (gw_in 14 (by decide +kernel) (by decide +kernel)), by decide +kernel, by decide +kernel⟩
theorem ml_RL_80 : MLv "GameOfNoesLaw" 80 Y_X12_run 1 := ⟨(gw_in 1607 (by decide +kernel) (by decide +kernel)), (gw_in 1608 (by decide +kernel) (by decide +kernel)), (gw_in 1609 (by decide +kernel) (by decide +kernel)), ok_X12_run, by decide +kernel⟩
set_option maxRecDepth 30000 in
theorem ok_X11_play : okY Y_X11_play := ⟨(gw_in 800 rfl rfl), (gw_in 1 (by decide +kernel) (by decide +kernel)), by decide +kernel, by decide +kernel⟩
theorem ml_RL_72 : MLv "GameOfNoesLaw" 72 Y_X11_play 5 := ⟨(gw_in 797 (by decide +kernel) (by decide +kernel)), (gw_in 798 (by decide +kernel) (by decide +kernel)), (gw_in 799 (by decide +kernel) (by decide +kernel)), ok_X11_play, by decide +kernel⟩
set_option maxRecDepth 30000 in
theorem ok_X12_play : okY Y_X12_play := ⟨(gw_in 1591 rfl rfl), (gw_in 14 (by decide +kernel) (by decide +kernel)), by decide +kernel, by decide +kernel⟩
theorem ml_RL_76 : MLv "GameOfNoesLaw" 76 Y_X12_play 5 := ⟨(gw_in 1588 (by decide +kernel) (by decide +kernel)), (gw_in 1589 (by decide +kernel) (by decide +kernel)), (gw_in 1590 (by decide +kernel) (by decide +kernel)), ok_X12_play, by decide +kernel⟩
set_option maxRecDepth 30000 in
theorem ok_X11_offers : okY Y_X11_offers := ⟨(gw_in 773 rfl rfl), (gw_in 1 (by decide +kernel) (by decide +kernel)), by decide +kernel, by decide +kernel⟩
theorem ml_RL_68 : MLv "GameOfNoesLaw" 68 Y_X11_offers 1 := ⟨(gw_in 770 (by decide +kernel) (by decide +kernel)), (gw_in 771 (by decide +kernel) (by decide +kernel)), (gw_in 772 (by decide +kernel) (by decide +kernel)), ok_X11_offers, by decide +kernel⟩
set_option maxRecDepth 30000 in
theorem ok_X12_offers : okY Y_X12_offers := ⟨(gw_in 1571 rfl rfl), (gw_in 14 (by decide +kernel) (by decide +kernel)), by decide +kernel, by decide +kernel⟩
theorem ml_RL_71 : MLv "GameOfNoesLaw" 71 Y_X12_offers 1 := ⟨(gw_in 1568 (by decide +kernel) (by decide +kernel)), (gw_in 1569 (by decide +kernel) (by decide +kernel)), (gw_in 1570 (by decide +kernel) (by decide +kernel)), ok_X12_offers, by decide +kernel⟩
set_option maxRecDepth 30000 in
theorem ok_X11_can : okY Y_X11_can := ⟨(gw_in 708 rfl rfl), (gw_in 1 (by decide +kernel) (by decide +kernel)), by decide +kernel, by decide +kernel⟩
theorem ml_RL_63 : MLv "GameOfNoesLaw" 63 Y_X11_can 2 := ⟨(gw_in 705 (by decide +kernel) (by decide +kernel)), (gw_in 706 (by decide +kernel) (by decide +kernel)), (gw_in 707 (by decide +kernel) (by decide +kernel)), ok_X11_can, by decide +kernel⟩
set_option maxRecDepth 30000 in
theorem ok_X12_can : okY Y_X12_can := ⟨(gw_in 1511 rfl rfl), (gw_in 14 (by decide +kernel) (by decide +kernel)), by decide +kernel, by decide +kernel⟩
theorem ml_RL_67 : MLv "GameOfNoesLaw" 67 Y_X12_can 2 := ⟨(gw_in 1508 (by decide +kernel) (by decide +kernel)), (gw_in 1509 (by decide +kernel) (by decide +kernel)), (gw_in 1510 (by decide +kernel) (by decide +kernel)), ok_X12_can, by decide +kernel⟩
set_option maxRecDepth 30000 in
theorem ok_X11_way : okY Y_X11_way := ⟨(gw_in 704 rfl rfl), (gw_in 1 (by decide +kernel) (by decide +kernel)), by decide +kernel, by decide +kernel⟩
theorem ml_RL_59 : MLv "GameOfNoesLaw" 59 Y_X11_way 2 := ⟨(gw_in 701 (by decide +kernel) (by decide +kernel)), (gw_in 702 (by decide +kernel) (by decide +kernel)), (gw_in 703 (by decide +kernel) (by decide +kernel)), ok_X11_way, by decide +kernel⟩
set_option maxRecDepth 30000 in
theorem ok_X12_way : okY Y_X12_way := ⟨(gw_in 1507 rfl rfl), (gw_in 14 (by decide +kernel) (by decide +kernel)), by decide +kernel, by decide +kernel⟩
theorem ml_RL_62 : MLv "GameOfNoesLaw" 62 Y_X12_way 2 := ⟨(gw_in 1504 (by decide +kernel) (by decide +kernel)), (gw_in 1505 (by decide +kernel) (by decide +kernel)), (gw_in 1506 (by decide +kernel) (by decide +kernel)), ok_X12_way, by decide +kernel⟩
set_option maxRecDepth 30000 in
theorem ok_X11_book : okY Y_X11_book := ⟨(gw_in 696 rfl rfl), (gw_in 1 (by decide +kernel) (by decide +kernel)), by decide +kernel, by decide +kernel⟩
theorem ml_RL_55 : MLv "GameOfNoesLaw" 55 Y_X11_book 1 := ⟨(gw_in 693 (by decide +kernel) (by decide +kernel)), (gw_in 694 (by decide +kernel) (by decide +kernel)), (gw_in 695 (by decide +kernel) (by decide +kernel)), ok_X11_book, by decide +kernel⟩
set_option maxRecDepth 30000 in
theorem ok_X12_book : okY Y_X12_book := ⟨(gw_in 1499 rfl rfl), (gw_in 14 (by decide +kernel) (by decide +kernel)), by decide +kernel, by decide +kernel⟩
theorem ml_RL_58 : MLv "GameOfNoesLaw" 58 Y_X12_book 1 := ⟨(gw_in 1496 (by decide +kernel) (by decide +kernel)), (gw_in 1497 (by decide +kernel) (by decide +kernel)), (gw_in 1498 (by decide +kernel) (by decide +kernel)), ok_X12_book, by decide +kernel⟩
set_option maxRecDepth 30000 in
theorem ok_X11_fault : okY Y_X11_fault := ⟨(gw_in 692 rfl rfl), (gw_in 1 (by decide +kernel) (by decide +kernel)), by decide +kernel, by decide +kernel⟩
theorem ml_RL_51 : MLv "GameOfNoesLaw" 51 Y_X11_fault 1 := ⟨(gw_in 689 (by decide +kernel) (by decide +kernel)), (gw_in 690 (by decide +kernel) (by decide +kernel)), (gw_in 691 (by decide +kernel) (by decide +kernel)), ok_X11_fault, by decide +kernel⟩
set_option maxRecDepth 30000 in
theorem ok_X12_fault : okY Y_X12_fault := ⟨(gw_in 1495 rfl rfl), (gw_in 14 (by decide +kernel) (by decide +kernel)), by decide +kernel, by decide +kernel⟩
theorem ml_RL_54 : MLv "GameOfNoesLaw" 54 Y_X12_fault 1 := ⟨(gw_in 1492 (by decide +kernel) (by decide +kernel)), (gw_in 1493 (by decide +kernel) (by decide +kernel)), (gw_in 1494 (by decide +kernel) (by decide +kernel)), ok_X12_fault, by decide +kernel⟩
set_option maxRecDepth 30000 in
theorem ok_X11_text : okY Y_X11_text := ⟨(gw_in 493 rfl rfl), (gw_in 1 (by decide +kernel) (by decide +kernel)), by decide +kernel, by decide +kernel⟩
theorem ml_RL_46 : MLv "GameOfNoesLaw" 46 Y_X11_text 0 := ⟨(gw_in 490 (by decide +kernel) (by decide +kernel)), (gw_in 491 (by decide +kernel) (by decide +kernel)), (gw_in 492 (by decide +kernel) (by decide +kernel)), ok_X11_text, by decide +kernel⟩
set_option maxRecDepth 30000 in
theorem ok_X12_text : okY Y_X12_text := ⟨(gw_in 1365 rfl rfl), (gw_in 14 (by decide +kernel) (by decide +kernel)), by decide +kernel, by decide +kernel⟩
theorem ml_RL_50 : MLv "GameOfNoesLaw" 50 Y_X12_text 0 := ⟨(gw_in 1362 (by decide +kernel) (by decide +kernel)), (gw_in 1363 (by decide +kernel) (by decide +kernel)), (gw_in 1364 (by decide +kernel) (by decide +kernel)), ok_X12_text, by decide +kernel⟩
set_option maxRecDepth 30000 in
theorem ok_X11_end : okY Y_X11_end := ⟨(gw_in 489 rfl rfl), (gw_in 1 (by decide +kernel) (by decide +kernel)), by decide +kernel, by decide +kernel⟩
theorem ml_RL_41 : MLv "GameOfNoesLaw" 41 Y_X11_end 1 := ⟨(gw_in 486 (by decide +kernel) (by decide +kernel)), (gw_in 487 (by decide +kernel) (by decide +kernel)), (gw_in 488 (by decide +kernel) (by decide +kernel)), ok_X11_end, by decide +kernel⟩
set_option maxRecDepth 30000 in
theorem ok_X12_end : okY Y_X12_end := ⟨(gw_in 1361 rfl rfl), (gw_in 14 (by decide +kernel) (by decide +kernel)), by decide +kernel, by decide +kernel⟩
theorem ml_RL_45 : MLv "GameOfNoesLaw" 45 Y_X12_end 1 := ⟨(gw_in 1358 (by decide +kernel) (by decide +kernel)), (gw_in 1359 (by decide +kernel) (by decide +kernel)), (gw_in 1360 (by decide +kernel) (by decide +kernel)), ok_X12_end, by decide +kernel⟩
set_option maxRecDepth 30000 in
theorem ok_X11_feed : okY Y_X11_feed := ⟨(gw_in 481 rfl rfl), (gw_in 1 (by decide +kernel) (by decide +kernel)), by decide +kernel, by decide +kernel⟩
theorem ml_RL_36 : MLv "GameOfNoesLaw" 36 Y_X11_feed 5 := ⟨(gw_in 478 (by decide +kernel) (by decide +kernel)), (gw_in 479 (by decide +kernel) (by decide +kernel)), (gw_in 480 (by decide +kernel) (by decide +kernel)), ok_X11_feed, by decide +kernel⟩
set_option maxRecDepth 30000 in
theorem ok_X12_feed : okY Y_X12_feed := ⟨(gw_in 1353 rfl rfl), (gw_in 14 (by decide +kernel) (by decide +kernel)), by decide +kernel, by decide +kernel⟩
theorem ml_RL_40 : MLv "GameOfNoesLaw" 40 Y_X12_feed 5 := ⟨(gw_in 1350 (by decide +kernel) (by decide +kernel)), (gw_in 1351 (by decide +kernel) (by decide +kernel)), (gw_in 1352 (by decide +kernel) (by decide +kernel)), ok_X12_feed, by decide +kernel⟩
set_option maxRecDepth 30000 in
theorem ok_X11_turn : okY Y_X11_turn := ⟨(gw_in 477 rfl rfl), (gw_in 1 (by decide +kernel) (by decide +kernel)), by decide +kernel, by decide +kernel⟩
theorem ml_RL_31 : MLv "GameOfNoesLaw" 31 Y_X11_turn 1 := ⟨(gw_in 474 (by decide +kernel) (by decide +kernel)), (gw_in 475 (by decide +kernel) (by decide +kernel)), (gw_in 476 (by decide +kernel) (by decide +kernel)), ok_X11_turn, by decide +kernel⟩
set_option maxRecDepth 30000 in
theorem ok_X12_turn : okY Y_X12_turn := ⟨(gw_in 1349 rfl rfl), (gw_in 14 (by decide +kernel) (by decide +kernel)), by decide +kernel, by decide +kernel⟩
theorem ml_RL_35 : MLv "GameOfNoesLaw" 35 Y_X12_turn 1 := ⟨(gw_in 1346 (by decide +kernel) (by decide +kernel)), (gw_in 1347 (by decide +kernel) (by decide +kernel)), (gw_in 1348 (by decide +kernel) (by decide +kernel)), ok_X12_turn, by decide +kernel⟩
set_option maxRecDepth 30000 in
theorem ok_X11_heap : okY Y_X11_heap := ⟨(gw_in 466 rfl rfl), (gw_in 1 (by decide +kernel) (by decide +kernel)), by decide +kernel, by decide +kernel⟩
theorem ml_RL_26 : MLv "GameOfNoesLaw" 26 Y_X11_heap 2 := ⟨(gw_in 463 (by decide +kernel) (by decide +kernel)), (gw_in 464 (by decide +kernel) (by decide +kernel)), (gw_in 465 (by decide +kernel) (by decide +kernel)), ok_X11_heap, by decide +kernel⟩
set_option maxRecDepth 30000 in
theorem ok_X12_heap : okY Y_X12_heap := ⟨(gw_in 1342 rfl rfl), (gw_in 14 (by decide +kernel) (by decide +kernel)), by decide +kernel, by decide +kernel⟩
theorem ml_RL_30 : MLv "GameOfNoesLaw" 30 Y_X12_heap 2 := ⟨(gw_in 1339 (by decide +kernel) (by decide +kernel)), (gw_in 1340 (by decide +kernel) (by decide +kernel)), (gw_in 1341 (by decide +kernel) (by decide +kernel)), ok_X12_heap, by decide +kernel⟩
set_option maxRecDepth 30000 in
theorem ok_X11_piece : okY Y_X11_piece := ⟨(gw_in 453 rfl rfl), (gw_in 1 (by decide +kernel) (by decide +kernel)), by decide +kernel, by decide +kernel⟩
theorem ml_RL_21 : MLv "GameOfNoesLaw" 21 Y_X11_piece 3 := ⟨(gw_in 450 (by decide +kernel) (by decide +kernel)), (gw_in 451 (by decide +kernel) (by decide +kernel)), (gw_in 452 (by decide +kernel) (by decide +kernel)), ok_X11_piece, by decide +kernel⟩
set_option maxRecDepth 30000 in
theorem ok_X12_piece : okY Y_X12_piece := ⟨(gw_in 1331 rfl rfl), (gw_in 14 (by decide +kernel) (by decide +kernel)), by decide +kernel, by decide +kernel⟩
theorem ml_RL_25 : MLv "GameOfNoesLaw" 25 Y_X12_piece 3 := ⟨(gw_in 1328 (by decide +kernel) (by decide +kernel)), (gw_in 1329 (by decide +kernel) (by decide +kernel)), (gw_in 1330 (by decide +kernel) (by decide +kernel)), ok_X12_piece, by decide +kernel⟩
theorem cn_RL_7 : CNk "GameOfNoesLaw" 7 11 16 := ⟨_, rfl, rfl, (gw_in 23 (by decide +kernel) (by decide +kernel)), (gw_in 24 (by decide +kernel) (by decide +kernel)), (gw_in 1 (by decide +kernel) (by decide +kernel))⟩
set_option maxRecDepth 30000 in
theorem ok_L_cell : okY Y_L_cell := ⟨(gw_in 1104 rfl rfl), (gw_in 0 (by decide +kernel) (by decide +kernel)), by decide +kernel, by decide +kernel⟩
theorem ml_RL_9 : MLs "GameOfNoesLaw" 9 Y_L_cell 2 := ⟨(gw_in 1102 (by decide +kernel) (by decide +kernel)), (gw_in 1103 (by decide +kernel) (by decide +kernel)), ok_L_cell, by decide +kernel⟩
set_option maxRecDepth 30000 in
theorem ok_X11_init : okY Y_X11_init := ⟨(gw_in 27 rfl rfl), (gw_in 1 (by decide +kernel) (by decide +kernel)), by decide +kernel, by decide +kernel⟩
theorem ml_RL_15 : MLi "GameOfNoesLaw" 15 Y_X11_init 2 := ⟨(gw_in 25 (by decide +kernel) (by decide +kernel)), (gw_in 26 (by decide +kernel) (by decide +kernel)), rfl, rfl, ok_X11_init, by decide +kernel⟩
theorem cn_RL_18 : CNk "GameOfNoesLaw" 18 12 70 := ⟨_, rfl, rfl, (gw_in 1105 (by decide +kernel) (by decide +kernel)), (gw_in 1106 (by decide +kernel) (by decide +kernel)), (gw_in 14 (by decide +kernel) (by decide +kernel))⟩
set_option maxRecDepth 30000 in
theorem ok_X12_init : okY Y_X12_init := ⟨(gw_in 1109 rfl rfl), (gw_in 14 (by decide +kernel) (by decide +kernel)), by decide +kernel, by decide +kernel⟩
theorem ml_RL_20 : MLi "GameOfNoesLaw" 20 Y_X12_init 2 := ⟨(gw_in 1107 (by decide +kernel) (by decide +kernel)), (gw_in 1108 (by decide +kernel) (by decide +kernel)), rfl, rfl, ok_X12_init, by decide +kernel⟩
def P_law : Int32 → Mem → Prop := fun b _ => b = 1
def F_law : wF := fun G below args s t => ((∃ b, args = #[Value.ref b]) ∧ G.1 = s.heap.size) → lw_Z below args s t
theorem r_lawret {c n pc : Nat} {lo : List (Option Value)} {x : Int32} {M : Mem} (hc : c ≤ 600000 ∧ n ≤ 7302250) (hd : Y_L_law.2.2.1[pc]? = some (some (.ireturn, 1))) (h : FQ (some (x, M)) P_law) : wp Y_L_law room_1 F_law c n pc lo [.int x] M := by
  obtain ⟨b, M', e1, hq⟩ := h
  cases e1
  have hx : x = 1 := hq
  subst hx
  intro G p l e s m args below meth cd H locs ls C hR hS hl
  by_cases hG : (∃ b, args = #[Value.ref b]) ∧ G.1 = s.heap.size
  · have hG2 := hG.2
    obtain ⟨⟨b, rfl⟩, -⟩ := hG
    have k : W p l e room_1 s m #[Value.ref b] below meth cd H [] 600000 7302250 (lw_Z below #[Value.ref b] s) (F0 m pc ls [.int 1]) := lw_ret C.x C.b C.2.2.2.1 C.2.2.2.2.1 (C.d hd)
    refine W.widen hc.1 hc.2 (va_forget (fun q hq => ?_) ?_)
    · have h1 : G.1 ≤ q.base := hS.2.2 q hq
      omega
    · intro T hT X
      obtain ⟨t, a1, b1⟩ := k T hT X
      exact ⟨t, a1, fun _ => b1⟩
  · intro T hT X
    exact ⟨T.setTop _, Steps.refl _, fun h => absurd h hG⟩
theorem dk_L_law : ∀ pc i, L_L_law[pc]? = some (some i) → decode code pc = .ok i := by
  intro pc i hi
  have hl : pc < 1009 := by
    have h := (List.getElem?_eq_some_iff.mp hi).1
    have e : L_L_law.length = 1009 := by decide +kernel
    omega
  rcases Nat.lt_or_ge pc 40 with h0 | h0
  · exact dkC_of dkl_0 (Nat.zero_le _) h0 hi
  rcases Nat.lt_or_ge pc 80 with h1 | h1
  · exact dkC_of dkl_1 (by omega) h1 hi
  rcases Nat.lt_or_ge pc 120 with h2 | h2
  · exact dkC_of dkl_2 (by omega) h2 hi
  rcases Nat.lt_or_ge pc 160 with h3 | h3
  · exact dkC_of dkl_3 (by omega) h3 hi
  rcases Nat.lt_or_ge pc 200 with h4 | h4
  · exact dkC_of dkl_4 (by omega) h4 hi
  rcases Nat.lt_or_ge pc 240 with h5 | h5
  · exact dkC_of dkl_5 (by omega) h5 hi
  rcases Nat.lt_or_ge pc 280 with h6 | h6
  · exact dkC_of dkl_6 (by omega) h6 hi
  rcases Nat.lt_or_ge pc 320 with h7 | h7
  · exact dkC_of dkl_7 (by omega) h7 hi
  rcases Nat.lt_or_ge pc 360 with h8 | h8
  · exact dkC_of dkl_8 (by omega) h8 hi
  rcases Nat.lt_or_ge pc 400 with h9 | h9
  · exact dkC_of dkl_9 (by omega) h9 hi
  rcases Nat.lt_or_ge pc 440 with h10 | h10
  · exact dkC_of dkl_10 (by omega) h10 hi
  rcases Nat.lt_or_ge pc 480 with h11 | h11
  · exact dkC_of dkl_11 (by omega) h11 hi
  rcases Nat.lt_or_ge pc 520 with h12 | h12
  · exact dkC_of dkl_12 (by omega) h12 hi
  rcases Nat.lt_or_ge pc 560 with h13 | h13
  · exact dkC_of dkl_13 (by omega) h13 hi
  rcases Nat.lt_or_ge pc 600 with h14 | h14
  · exact dkC_of dkl_14 (by omega) h14 hi
  rcases Nat.lt_or_ge pc 640 with h15 | h15
  · exact dkC_of dkl_15 (by omega) h15 hi
  rcases Nat.lt_or_ge pc 680 with h16 | h16
  · exact dkC_of dkl_16 (by omega) h16 hi
  rcases Nat.lt_or_ge pc 720 with h17 | h17
  · exact dkC_of dkl_17 (by omega) h17 hi
  rcases Nat.lt_or_ge pc 760 with h18 | h18
  · exact dkC_of dkl_18 (by omega) h18 hi
  rcases Nat.lt_or_ge pc 800 with h19 | h19
  · exact dkC_of dkl_19 (by omega) h19 hi
  rcases Nat.lt_or_ge pc 840 with h20 | h20
  · exact dkC_of dkl_20 (by omega) h20 hi
  rcases Nat.lt_or_ge pc 880 with h21 | h21
  · exact dkC_of dkl_21 (by omega) h21 hi
  rcases Nat.lt_or_ge pc 920 with h22 | h22
  · exact dkC_of dkl_22 (by omega) h22 hi
  rcases Nat.lt_or_ge pc 960 with h23 | h23
  · exact dkC_of dkl_23 (by omega) h23 hi
  rcases Nat.lt_or_ge pc 1000 with h24 | h24
  · exact dkC_of dkl_24 (by omega) h24 hi
  rcases Nat.lt_or_ge pc 1009 with h25 | h25
  · exact dkC_of dkl_25 (by omega) h25 hi
  · omega
set_option maxRecDepth 40000 in
set_option maxHeartbeats 8000000 in
theorem sb_L_law_38  {q38 : Option Nat → Option Nat → Option Nat → Int32 → Mem → Option (Int32 × Mem)} (hq38 : ∀ (r0 : Option Nat) (r1 : Option Nat) (r2 : Option Nat) (i3 : Int32) (M : Mem), FQ (q38 r0 r1 r2 i3 M) P_law → wp Y_L_law room_1 F_law 295 471486 38 [some (va_rf r0), some (va_rf r1), some (va_rf r2), some (.int i3)] [] M) (r0 : Option Nat) (r1 : Option Nat) (r2 : Option Nat) (i3 : Int32) (M : Mem) (h : FQ (b_L_law_38 q38 r0 r1 r2 i3 M) P_law) : wp Y_L_law room_1 F_law 295 471486 38 [some (va_rf r0), some (va_rf r1), some (va_rf r2), some (.int i3)] [] M := by
  unfold b_L_law_38 at h
  refine r_iload_n rfl rfl ?_
  refine r_aload_n rfl rfl ?_
  refine r_alen rfl h (fun v1 h => ?_)
  refine r_bipush (v := 6) rfl (by decide) ?_
  refine r_isub rfl ?_
  refine r_ic_gt 1007 rfl (by decide) h (fun h => ?_) (fun h => ?_)
  · refine r_iconst (v := 1) rfl (by decide) ?_
    exact r_lawret ⟨Nat.le_of_ble_eq_true rfl, Nat.le_of_ble_eq_true rfl⟩ rfl h
  · refine r_aload_n rfl rfl ?_
    refine r_iload_n rfl rfl ?_
    refine r_iald8 rfl h (fun v2 h => ?_)
    refine r_bipush (v := 31) rfl (by decide) ?_
    refine r_iand rfl ?_
    refine r_table (ks := [(0, 184), (1, 227), (2, 260), (3, 283), (4, 346), (5, 369), (6, 382), (7, 405), (8, 428), (9, 461), (10, 494), (11, 517), (12, 580), (13, 603), (14, 616), (15, 679), (16, 692), (17, 705), (18, 738), (19, 781), (20, 794), (21, 817), (22, 840), (23, 883), (24, 916), (25, 929), (26, 952), (27, 965), (28, 978)]) (dt := 1001) rfl (by decide) (by decide) ?_
    refine r_swc h (fun h => ?_) (fun h => ?_)
    · refine r_aload_n rfl rfl ?_
      refine r_aload_n rfl rfl ?_
      refine r_iload_n rfl rfl ?_
      refine r_iconst (v := 1) rfl (by decide) ?_
      refine r_iadd rfl ?_
      refine r_iald8 rfl h (fun v141 h => ?_)
      refine r_aload_n rfl rfl ?_
      refine r_iload_n rfl rfl ?_
      refine r_iconst (v := 2) rfl (by decide) ?_
      refine r_iadd rfl ?_
      refine r_iald8 rfl h (fun v142 h => ?_)
      refine r_aload_n rfl rfl ?_
      refine r_iload_n rfl rfl ?_
      refine r_iconst (v := 3) rfl (by decide) ?_
      refine r_iadd rfl ?_
      refine r_iald8 rfl h (fun v143 h => ?_)
      refine r_cv_i (vs := [.int v141, .int v142, .int v143]) (d := 0 + 1) rfl ml_RL_21 rfl ⟨Nat.le_of_ble_eq_true rfl, Nat.le_of_ble_eq_true rfl⟩ ⟨Nat.le_of_ble_eq_true rfl, Nat.le_of_ble_eq_true rfl⟩ rfl rfl rfl h (s_X11_piece (d := 0)) (fun v144 M57 h => ?_)
      refine r_aload_n rfl rfl ?_
      refine r_aload_n rfl rfl ?_
      refine r_iload_n rfl rfl ?_
      refine r_iconst (v := 1) rfl (by decide) ?_
      refine r_iadd rfl ?_
      refine r_iald8 rfl h (fun v145 h => ?_)
      refine r_aload_n rfl rfl ?_
      refine r_iload_n rfl rfl ?_
      refine r_iconst (v := 2) rfl (by decide) ?_
      refine r_iadd rfl ?_
      refine r_iald8 rfl h (fun v146 h => ?_)
      refine r_aload_n rfl rfl ?_
      refine r_iload_n rfl rfl ?_
      refine r_iconst (v := 3) rfl (by decide) ?_
      refine r_iadd rfl ?_
      refine r_iald8 rfl h (fun v147 h => ?_)
      refine r_cv_i (vs := [.int v145, .int v146, .int v147]) (d := 0 + 2) rfl ml_RL_25 rfl ⟨Nat.le_of_ble_eq_true rfl, Nat.le_of_ble_eq_true rfl⟩ ⟨Nat.le_of_ble_eq_true rfl, Nat.le_of_ble_eq_true rfl⟩ rfl rfl rfl h (s_X12_piece (d := 0)) (fun v148 M58 h => ?_)
      refine r_ic_eq 1001 rfl (by decide) h (fun h => ?_) (fun h => ?_)
      · refine r_iinc (v := 6) (lo' := [some (va_rf r0), some (va_rf r1), some (va_rf r2), some (.int (i3 + (6 : Int32)))]) rfl rfl rfl (by decide) (by simp [stOk, cat_rf]) rfl ?_
        refine r_goto 38 rfl (by decide) ?_
        exact hq38 _ _ _ _ _ h
      · refine r_iconst (v := 0) rfl (by decide) ?_
        exact r_lawret ⟨Nat.le_of_ble_eq_true rfl, Nat.le_of_ble_eq_true rfl⟩ rfl h
    · refine r_swc h (fun h => ?_) (fun h => ?_)
      · refine r_aload_n rfl rfl ?_
        refine r_aload_n rfl rfl ?_
        refine r_iload_n rfl rfl ?_
        refine r_iconst (v := 1) rfl (by decide) ?_
        refine r_iadd rfl ?_
        refine r_iald8 rfl h (fun v135 h => ?_)
        refine r_aload_n rfl rfl ?_
        refine r_iload_n rfl rfl ?_
        refine r_iconst (v := 2) rfl (by decide) ?_
        refine r_iadd rfl ?_
        refine r_iald8 rfl h (fun v136 h => ?_)
        refine r_cv_i (vs := [.int v135, .int v136]) (d := 0 + 1) rfl ml_RL_26 rfl ⟨Nat.le_of_ble_eq_true rfl, Nat.le_of_ble_eq_true rfl⟩ ⟨Nat.le_of_ble_eq_true rfl, Nat.le_of_ble_eq_true rfl⟩ rfl rfl rfl h (s_X11_heap (d := 0)) (fun v137 M55 h => ?_)
        refine r_aload_n rfl rfl ?_
        refine r_aload_n rfl rfl ?_
        refine r_iload_n rfl rfl ?_
        refine r_iconst (v := 1) rfl (by decide) ?_
        refine r_iadd rfl ?_
        refine r_iald8 rfl h (fun v138 h => ?_)
        refine r_aload_n rfl rfl ?_
        refine r_iload_n rfl rfl ?_
        refine r_iconst (v := 2) rfl (by decide) ?_
        refine r_iadd rfl ?_
        refine r_iald8 rfl h (fun v139 h => ?_)
        refine r_cv_i (vs := [.int v138, .int v139]) (d := 0 + 2) rfl ml_RL_30 rfl ⟨Nat.le_of_ble_eq_true rfl, Nat.le_of_ble_eq_true rfl⟩ ⟨Nat.le_of_ble_eq_true rfl, Nat.le_of_ble_eq_true rfl⟩ rfl rfl rfl h (s_X12_heap (d := 0)) (fun v140 M56 h => ?_)
        refine r_ic_eq 1001 rfl (by decide) h (fun h => ?_) (fun h => ?_)
        · refine r_iinc (v := 6) (lo' := [some (va_rf r0), some (va_rf r1), some (va_rf r2), some (.int (i3 + (6 : Int32)))]) rfl rfl rfl (by decide) (by simp [stOk, cat_rf]) rfl ?_
          refine r_goto 38 rfl (by decide) ?_
          exact hq38 _ _ _ _ _ h
        · refine r_iconst (v := 0) rfl (by decide) ?_
          exact r_lawret ⟨Nat.le_of_ble_eq_true rfl, Nat.le_of_ble_eq_true rfl⟩ rfl h
      · refine r_swc h (fun h => ?_) (fun h => ?_)
        · refine r_aload_n rfl rfl ?_
          refine r_aload_n rfl rfl ?_
          refine r_iload_n rfl rfl ?_
          refine r_iconst (v := 1) rfl (by decide) ?_
          refine r_iadd rfl ?_
          refine r_iald8 rfl h (fun v131 h => ?_)
          refine r_cv_i (vs := [.int v131]) (d := 0 + 1) rfl ml_RL_31 rfl ⟨Nat.le_of_ble_eq_true rfl, Nat.le_of_ble_eq_true rfl⟩ ⟨Nat.le_of_ble_eq_true rfl, Nat.le_of_ble_eq_true rfl⟩ rfl rfl rfl h (s_X11_turn (d := 0)) (fun v132 M53 h => ?_)
          refine r_aload_n rfl rfl ?_
          refine r_aload_n rfl rfl ?_
          refine r_iload_n rfl rfl ?_
          refine r_iconst (v := 1) rfl (by decide) ?_
          refine r_iadd rfl ?_
          refine r_iald8 rfl h (fun v133 h => ?_)
          refine r_cv_i (vs := [.int v133]) (d := 0 + 1) rfl ml_RL_35 rfl ⟨Nat.le_of_ble_eq_true rfl, Nat.le_of_ble_eq_true rfl⟩ ⟨Nat.le_of_ble_eq_true rfl, Nat.le_of_ble_eq_true rfl⟩ rfl rfl rfl h (s_X12_turn (d := 0)) (fun v134 M54 h => ?_)
          refine r_ic_eq 1001 rfl (by decide) h (fun h => ?_) (fun h => ?_)
          · refine r_iinc (v := 6) (lo' := [some (va_rf r0), some (va_rf r1), some (va_rf r2), some (.int (i3 + (6 : Int32)))]) rfl rfl rfl (by decide) (by simp [stOk, cat_rf]) rfl ?_
            refine r_goto 38 rfl (by decide) ?_
            exact hq38 _ _ _ _ _ h
          · refine r_iconst (v := 0) rfl (by decide) ?_
            exact r_lawret ⟨Nat.le_of_ble_eq_true rfl, Nat.le_of_ble_eq_true rfl⟩ rfl h
        · refine r_swc h (fun h => ?_) (fun h => ?_)
          · refine r_aload_n rfl rfl ?_
            refine r_aload_n rfl rfl ?_
            refine r_iload_n rfl rfl ?_
            refine r_iconst (v := 1) rfl (by decide) ?_
            refine r_iadd rfl ?_
            refine r_iald8 rfl h (fun v119 h => ?_)
            refine r_aload_n rfl rfl ?_
            refine r_iload_n rfl rfl ?_
            refine r_iconst (v := 2) rfl (by decide) ?_
            refine r_iadd rfl ?_
            refine r_iald8 rfl h (fun v120 h => ?_)
            refine r_aload_n rfl rfl ?_
            refine r_iload_n rfl rfl ?_
            refine r_iconst (v := 3) rfl (by decide) ?_
            refine r_iadd rfl ?_
            refine r_iald8 rfl h (fun v121 h => ?_)
            refine r_aload_n rfl rfl ?_
            refine r_iload_n rfl rfl ?_
            refine r_iconst (v := 4) rfl (by decide) ?_
            refine r_iadd rfl ?_
            refine r_iald8 rfl h (fun v122 h => ?_)
            refine r_aload_n rfl rfl ?_
            refine r_iload_n rfl rfl ?_
            refine r_iconst (v := 5) rfl (by decide) ?_
            refine r_iadd rfl ?_
            refine r_iald8 rfl h (fun v123 h => ?_)
            refine r_cv_i (vs := [.int v119, .int v120, .int v121, .int v122, .int v123]) (d := 0 + 1) rfl ml_RL_36 rfl ⟨Nat.le_of_ble_eq_true rfl, Nat.le_of_ble_eq_true rfl⟩ ⟨Nat.le_of_ble_eq_true rfl, Nat.le_of_ble_eq_true rfl⟩ rfl rfl rfl h (s_X11_feed (d := 0)) (fun v124 M51 h => ?_)
            refine r_aload_n rfl rfl ?_
            refine r_aload_n rfl rfl ?_
            refine r_iload_n rfl rfl ?_
            refine r_iconst (v := 1) rfl (by decide) ?_
            refine r_iadd rfl ?_
            refine r_iald8 rfl h (fun v125 h => ?_)
            refine r_aload_n rfl rfl ?_
            refine r_iload_n rfl rfl ?_
            refine r_iconst (v := 2) rfl (by decide) ?_
            refine r_iadd rfl ?_
            refine r_iald8 rfl h (fun v126 h => ?_)
            refine r_aload_n rfl rfl ?_
            refine r_iload_n rfl rfl ?_
            refine r_iconst (v := 3) rfl (by decide) ?_
            refine r_iadd rfl ?_
            refine r_iald8 rfl h (fun v127 h => ?_)
            refine r_aload_n rfl rfl ?_
            refine r_iload_n rfl rfl ?_
            refine r_iconst (v := 4) rfl (by decide) ?_
            refine r_iadd rfl ?_
            refine r_iald8 rfl h (fun v128 h => ?_)
            refine r_aload_n rfl rfl ?_
            refine r_iload_n rfl rfl ?_
            refine r_iconst (v := 5) rfl (by decide) ?_
            refine r_iadd rfl ?_
            refine r_iald8 rfl h (fun v129 h => ?_)
            refine r_cv_i (vs := [.int v125, .int v126, .int v127, .int v128, .int v129]) (d := 0 + 1) rfl ml_RL_40 rfl ⟨Nat.le_of_ble_eq_true rfl, Nat.le_of_ble_eq_true rfl⟩ ⟨Nat.le_of_ble_eq_true rfl, Nat.le_of_ble_eq_true rfl⟩ rfl rfl rfl h (s_X12_feed (d := 0)) (fun v130 M52 h => ?_)
            refine r_ic_eq 1001 rfl (by decide) h (fun h => ?_) (fun h => ?_)
            · refine r_iinc (v := 6) (lo' := [some (va_rf r0), some (va_rf r1), some (va_rf r2), some (.int (i3 + (6 : Int32)))]) rfl rfl rfl (by decide) (by simp [stOk, cat_rf]) rfl ?_
              refine r_goto 38 rfl (by decide) ?_
              exact hq38 _ _ _ _ _ h
            · refine r_iconst (v := 0) rfl (by decide) ?_
              exact r_lawret ⟨Nat.le_of_ble_eq_true rfl, Nat.le_of_ble_eq_true rfl⟩ rfl h
          · refine r_swc h (fun h => ?_) (fun h => ?_)
            · refine r_aload_n rfl rfl ?_
              refine r_aload_n rfl rfl ?_
              refine r_iload_n rfl rfl ?_
              refine r_iconst (v := 1) rfl (by decide) ?_
              refine r_iadd rfl ?_
              refine r_iald8 rfl h (fun v115 h => ?_)
              refine r_cv_i (vs := [.int v115]) (d := 0) rfl ml_RL_41 rfl ⟨Nat.le_of_ble_eq_true rfl, Nat.le_of_ble_eq_true rfl⟩ ⟨Nat.le_of_ble_eq_true rfl, Nat.le_of_ble_eq_true rfl⟩ rfl rfl rfl h (s_X11_end (d := 0)) (fun v116 M49 h => ?_)
              refine r_aload_n rfl rfl ?_
              refine r_aload_n rfl rfl ?_
              refine r_iload_n rfl rfl ?_
              refine r_iconst (v := 1) rfl (by decide) ?_
              refine r_iadd rfl ?_
              refine r_iald8 rfl h (fun v117 h => ?_)
              refine r_cv_i (vs := [.int v117]) (d := 0 + 1) rfl ml_RL_45 rfl ⟨Nat.le_of_ble_eq_true rfl, Nat.le_of_ble_eq_true rfl⟩ ⟨Nat.le_of_ble_eq_true rfl, Nat.le_of_ble_eq_true rfl⟩ rfl rfl rfl h (s_X12_end (d := 0)) (fun v118 M50 h => ?_)
              refine r_ic_eq 1001 rfl (by decide) h (fun h => ?_) (fun h => ?_)
              · refine r_iinc (v := 6) (lo' := [some (va_rf r0), some (va_rf r1), some (va_rf r2), some (.int (i3 + (6 : Int32)))]) rfl rfl rfl (by decide) (by simp [stOk, cat_rf]) rfl ?_
                refine r_goto 38 rfl (by decide) ?_
                exact hq38 _ _ _ _ _ h
              · refine r_iconst (v := 0) rfl (by decide) ?_
                exact r_lawret ⟨Nat.le_of_ble_eq_true rfl, Nat.le_of_ble_eq_true rfl⟩ rfl h
            · refine r_swc h (fun h => ?_) (fun h => ?_)
              · refine r_aload_n rfl rfl ?_
                refine r_cv_i (vs := []) (d := 0 + 77) rfl ml_RL_46 rfl ⟨Nat.le_of_ble_eq_true rfl, Nat.le_of_ble_eq_true rfl⟩ ⟨Nat.le_of_ble_eq_true rfl, Nat.le_of_ble_eq_true rfl⟩ rfl rfl rfl h (s_X11_text (d := 0)) (fun v113 M47 h => ?_)
                refine r_aload_n rfl rfl ?_
                refine r_cv_i (vs := []) (d := 0 + 6) rfl ml_RL_50 rfl ⟨Nat.le_of_ble_eq_true rfl, Nat.le_of_ble_eq_true rfl⟩ ⟨Nat.le_of_ble_eq_true rfl, Nat.le_of_ble_eq_true rfl⟩ rfl rfl rfl h (s_X12_text (d := 0)) (fun v114 M48 h => ?_)
                refine r_ic_eq 1001 rfl (by decide) h (fun h => ?_) (fun h => ?_)
                · refine r_iinc (v := 6) (lo' := [some (va_rf r0), some (va_rf r1), some (va_rf r2), some (.int (i3 + (6 : Int32)))]) rfl rfl rfl (by decide) (by simp [stOk, cat_rf]) rfl ?_
                  refine r_goto 38 rfl (by decide) ?_
                  exact hq38 _ _ _ _ _ h
                · refine r_iconst (v := 0) rfl (by decide) ?_
                  exact r_lawret ⟨Nat.le_of_ble_eq_true rfl, Nat.le_of_ble_eq_true rfl⟩ rfl h
              · refine r_swc h (fun h => ?_) (fun h => ?_)
                · refine r_aload_n rfl rfl ?_
                  refine r_aload_n rfl rfl ?_
                  refine r_iload_n rfl rfl ?_
                  refine r_iconst (v := 1) rfl (by decide) ?_
                  refine r_iadd rfl ?_
                  refine r_iald8 rfl h (fun v109 h => ?_)
                  refine r_cv_i (vs := [.int v109]) (d := 0) rfl ml_RL_51 rfl ⟨Nat.le_of_ble_eq_true rfl, Nat.le_of_ble_eq_true rfl⟩ ⟨Nat.le_of_ble_eq_true rfl, Nat.le_of_ble_eq_true rfl⟩ rfl rfl rfl h (s_X11_fault (d := 0)) (fun v110 M45 h => ?_)
                  refine r_aload_n rfl rfl ?_
                  refine r_aload_n rfl rfl ?_
                  refine r_iload_n rfl rfl ?_
                  refine r_iconst (v := 1) rfl (by decide) ?_
                  refine r_iadd rfl ?_
                  refine r_iald8 rfl h (fun v111 h => ?_)
                  refine r_cv_i (vs := [.int v111]) (d := 0) rfl ml_RL_54 rfl ⟨Nat.le_of_ble_eq_true rfl, Nat.le_of_ble_eq_true rfl⟩ ⟨Nat.le_of_ble_eq_true rfl, Nat.le_of_ble_eq_true rfl⟩ rfl rfl rfl h (s_X12_fault (d := 0)) (fun v112 M46 h => ?_)
                  refine r_ic_eq 1001 rfl (by decide) h (fun h => ?_) (fun h => ?_)
                  · refine r_iinc (v := 6) (lo' := [some (va_rf r0), some (va_rf r1), some (va_rf r2), some (.int (i3 + (6 : Int32)))]) rfl rfl rfl (by decide) (by simp [stOk, cat_rf]) rfl ?_
                    refine r_goto 38 rfl (by decide) ?_
                    exact hq38 _ _ _ _ _ h
                  · refine r_iconst (v := 0) rfl (by decide) ?_
                    exact r_lawret ⟨Nat.le_of_ble_eq_true rfl, Nat.le_of_ble_eq_true rfl⟩ rfl h
                · refine r_swc h (fun h => ?_) (fun h => ?_)
                  · refine r_aload_n rfl rfl ?_
                    refine r_aload_n rfl rfl ?_
                    refine r_iload_n rfl rfl ?_
                    refine r_iconst (v := 1) rfl (by decide) ?_
                    refine r_iadd rfl ?_
                    refine r_iald8 rfl h (fun v105 h => ?_)
                    refine r_cv_i (vs := [.int v105]) (d := 0 + 1) rfl ml_RL_55 rfl ⟨Nat.le_of_ble_eq_true rfl, Nat.le_of_ble_eq_true rfl⟩ ⟨Nat.le_of_ble_eq_true rfl, Nat.le_of_ble_eq_true rfl⟩ rfl rfl rfl h (s_X11_book (d := 0)) (fun v106 M43 h => ?_)
                    refine r_aload_n rfl rfl ?_
                    refine r_aload_n rfl rfl ?_
                    refine r_iload_n rfl rfl ?_
                    refine r_iconst (v := 1) rfl (by decide) ?_
                    refine r_iadd rfl ?_
                    refine r_iald8 rfl h (fun v107 h => ?_)
                    refine r_cv_i (vs := [.int v107]) (d := 0 + 2) rfl ml_RL_58 rfl ⟨Nat.le_of_ble_eq_true rfl, Nat.le_of_ble_eq_true rfl⟩ ⟨Nat.le_of_ble_eq_true rfl, Nat.le_of_ble_eq_true rfl⟩ rfl rfl rfl h (s_X12_book (d := 0)) (fun v108 M44 h => ?_)
                    refine r_ic_eq 1001 rfl (by decide) h (fun h => ?_) (fun h => ?_)
                    · refine r_iinc (v := 6) (lo' := [some (va_rf r0), some (va_rf r1), some (va_rf r2), some (.int (i3 + (6 : Int32)))]) rfl rfl rfl (by decide) (by simp [stOk, cat_rf]) rfl ?_
                      refine r_goto 38 rfl (by decide) ?_
                      exact hq38 _ _ _ _ _ h
                    · refine r_iconst (v := 0) rfl (by decide) ?_
                      exact r_lawret ⟨Nat.le_of_ble_eq_true rfl, Nat.le_of_ble_eq_true rfl⟩ rfl h
                  · refine r_swc h (fun h => ?_) (fun h => ?_)
                    · refine r_aload_n rfl rfl ?_
                      refine r_aload_n rfl rfl ?_
                      refine r_iload_n rfl rfl ?_
                      refine r_iconst (v := 1) rfl (by decide) ?_
                      refine r_iadd rfl ?_
                      refine r_iald8 rfl h (fun v99 h => ?_)
                      refine r_aload_n rfl rfl ?_
                      refine r_iload_n rfl rfl ?_
                      refine r_iconst (v := 2) rfl (by decide) ?_
                      refine r_iadd rfl ?_
                      refine r_iald8 rfl h (fun v100 h => ?_)
                      refine r_cv_i (vs := [.int v99, .int v100]) (d := 0 + 1) rfl ml_RL_59 rfl ⟨Nat.le_of_ble_eq_true rfl, Nat.le_of_ble_eq_true rfl⟩ ⟨Nat.le_of_ble_eq_true rfl, Nat.le_of_ble_eq_true rfl⟩ rfl rfl rfl h (s_X11_way (d := 0)) (fun v101 M41 h => ?_)
                      refine r_aload_n rfl rfl ?_
                      refine r_aload_n rfl rfl ?_
                      refine r_iload_n rfl rfl ?_
                      refine r_iconst (v := 1) rfl (by decide) ?_
                      refine r_iadd rfl ?_
                      refine r_iald8 rfl h (fun v102 h => ?_)
                      refine r_aload_n rfl rfl ?_
                      refine r_iload_n rfl rfl ?_
                      refine r_iconst (v := 2) rfl (by decide) ?_
                      refine r_iadd rfl ?_
                      refine r_iald8 rfl h (fun v103 h => ?_)
                      refine r_cv_i (vs := [.int v102, .int v103]) (d := 0 + 2) rfl ml_RL_62 rfl ⟨Nat.le_of_ble_eq_true rfl, Nat.le_of_ble_eq_true rfl⟩ ⟨Nat.le_of_ble_eq_true rfl, Nat.le_of_ble_eq_true rfl⟩ rfl rfl rfl h (s_X12_way (d := 0)) (fun v104 M42 h => ?_)
                      refine r_ic_eq 1001 rfl (by decide) h (fun h => ?_) (fun h => ?_)
                      · refine r_iinc (v := 6) (lo' := [some (va_rf r0), some (va_rf r1), some (va_rf r2), some (.int (i3 + (6 : Int32)))]) rfl rfl rfl (by decide) (by simp [stOk, cat_rf]) rfl ?_
                        refine r_goto 38 rfl (by decide) ?_
                        exact hq38 _ _ _ _ _ h
                      · refine r_iconst (v := 0) rfl (by decide) ?_
                        exact r_lawret ⟨Nat.le_of_ble_eq_true rfl, Nat.le_of_ble_eq_true rfl⟩ rfl h
                    · refine r_swc h (fun h => ?_) (fun h => ?_)
                      · refine r_aload_n rfl rfl ?_
                        refine r_aload_n rfl rfl ?_
                        refine r_iload_n rfl rfl ?_
                        refine r_iconst (v := 1) rfl (by decide) ?_
                        refine r_iadd rfl ?_
                        refine r_iald8 rfl h (fun v93 h => ?_)
                        refine r_aload_n rfl rfl ?_
                        refine r_iload_n rfl rfl ?_
                        refine r_iconst (v := 2) rfl (by decide) ?_
                        refine r_iadd rfl ?_
                        refine r_iald8 rfl h (fun v94 h => ?_)
                        refine r_cv_i (vs := [.int v93, .int v94]) (d := 0 + 4) rfl ml_RL_63 rfl ⟨Nat.le_of_ble_eq_true rfl, Nat.le_of_ble_eq_true rfl⟩ ⟨Nat.le_of_ble_eq_true rfl, Nat.le_of_ble_eq_true rfl⟩ rfl rfl rfl h (s_X11_can (d := 0)) (fun v95 M39 h => ?_)
                        refine r_aload_n rfl rfl ?_
                        refine r_aload_n rfl rfl ?_
                        refine r_iload_n rfl rfl ?_
                        refine r_iconst (v := 1) rfl (by decide) ?_
                        refine r_iadd rfl ?_
                        refine r_iald8 rfl h (fun v96 h => ?_)
                        refine r_aload_n rfl rfl ?_
                        refine r_iload_n rfl rfl ?_
                        refine r_iconst (v := 2) rfl (by decide) ?_
                        refine r_iadd rfl ?_
                        refine r_iald8 rfl h (fun v97 h => ?_)
                        refine r_cv_i (vs := [.int v96, .int v97]) (d := 0 + 6) rfl ml_RL_67 rfl ⟨Nat.le_of_ble_eq_true rfl, Nat.le_of_ble_eq_true rfl⟩ ⟨Nat.le_of_ble_eq_true rfl, Nat.le_of_ble_eq_true rfl⟩ rfl rfl rfl h (s_X12_can (d := 0)) (fun v98 M40 h => ?_)
                        refine r_ic_eq 1001 rfl (by decide) h (fun h => ?_) (fun h => ?_)
                        · refine r_iinc (v := 6) (lo' := [some (va_rf r0), some (va_rf r1), some (va_rf r2), some (.int (i3 + (6 : Int32)))]) rfl rfl rfl (by decide) (by simp [stOk, cat_rf]) rfl ?_
                          refine r_goto 38 rfl (by decide) ?_
                          exact hq38 _ _ _ _ _ h
                        · refine r_iconst (v := 0) rfl (by decide) ?_
                          exact r_lawret ⟨Nat.le_of_ble_eq_true rfl, Nat.le_of_ble_eq_true rfl⟩ rfl h
                      · refine r_swc h (fun h => ?_) (fun h => ?_)
                        · refine r_aload_n rfl rfl ?_
                          refine r_aload_n rfl rfl ?_
                          refine r_iload_n rfl rfl ?_
                          refine r_iconst (v := 1) rfl (by decide) ?_
                          refine r_iadd rfl ?_
                          refine r_iald8 rfl h (fun v89 h => ?_)
                          refine r_cv_i (vs := [.int v89]) (d := 0 + 4) rfl ml_RL_68 rfl ⟨Nat.le_of_ble_eq_true rfl, Nat.le_of_ble_eq_true rfl⟩ ⟨Nat.le_of_ble_eq_true rfl, Nat.le_of_ble_eq_true rfl⟩ rfl rfl rfl h (s_X11_offers (d := 0)) (fun v90 M37 h => ?_)
                          refine r_aload_n rfl rfl ?_
                          refine r_aload_n rfl rfl ?_
                          refine r_iload_n rfl rfl ?_
                          refine r_iconst (v := 1) rfl (by decide) ?_
                          refine r_iadd rfl ?_
                          refine r_iald8 rfl h (fun v91 h => ?_)
                          refine r_cv_i (vs := [.int v91]) (d := 0 + 7) rfl ml_RL_71 rfl ⟨Nat.le_of_ble_eq_true rfl, Nat.le_of_ble_eq_true rfl⟩ ⟨Nat.le_of_ble_eq_true rfl, Nat.le_of_ble_eq_true rfl⟩ rfl rfl rfl h (s_X12_offers (d := 0)) (fun v92 M38 h => ?_)
                          refine r_ic_eq 1001 rfl (by decide) h (fun h => ?_) (fun h => ?_)
                          · refine r_iinc (v := 6) (lo' := [some (va_rf r0), some (va_rf r1), some (va_rf r2), some (.int (i3 + (6 : Int32)))]) rfl rfl rfl (by decide) (by simp [stOk, cat_rf]) rfl ?_
                            refine r_goto 38 rfl (by decide) ?_
                            exact hq38 _ _ _ _ _ h
                          · refine r_iconst (v := 0) rfl (by decide) ?_
                            exact r_lawret ⟨Nat.le_of_ble_eq_true rfl, Nat.le_of_ble_eq_true rfl⟩ rfl h
                        · refine r_swc h (fun h => ?_) (fun h => ?_)
                          · refine r_aload_n rfl rfl ?_
                            refine r_aload_n rfl rfl ?_
                            refine r_iload_n rfl rfl ?_
                            refine r_iconst (v := 1) rfl (by decide) ?_
                            refine r_iadd rfl ?_
                            refine r_iald8 rfl h (fun v77 h => ?_)
                            refine r_aload_n rfl rfl ?_
                            refine r_iload_n rfl rfl ?_
                            refine r_iconst (v := 2) rfl (by decide) ?_
                            refine r_iadd rfl ?_
                            refine r_iald8 rfl h (fun v78 h => ?_)
                            refine r_aload_n rfl rfl ?_
                            refine r_iload_n rfl rfl ?_
                            refine r_iconst (v := 3) rfl (by decide) ?_
                            refine r_iadd rfl ?_
                            refine r_iald8 rfl h (fun v79 h => ?_)
                            refine r_aload_n rfl rfl ?_
                            refine r_iload_n rfl rfl ?_
                            refine r_iconst (v := 4) rfl (by decide) ?_
                            refine r_iadd rfl ?_
                            refine r_iald8 rfl h (fun v80 h => ?_)
                            refine r_aload_n rfl rfl ?_
                            refine r_iload_n rfl rfl ?_
                            refine r_iconst (v := 5) rfl (by decide) ?_
                            refine r_iadd rfl ?_
                            refine r_iald8 rfl h (fun v81 h => ?_)
                            refine r_cv_i (vs := [.int v77, .int v78, .int v79, .int v80, .int v81]) (d := 0 + 6) rfl ml_RL_72 rfl ⟨Nat.le_of_ble_eq_true rfl, Nat.le_of_ble_eq_true rfl⟩ ⟨Nat.le_of_ble_eq_true rfl, Nat.le_of_ble_eq_true rfl⟩ rfl rfl rfl h (s_X11_play (d := 0)) (fun v82 M35 h => ?_)
                            refine r_aload_n rfl rfl ?_
                            refine r_aload_n rfl rfl ?_
                            refine r_iload_n rfl rfl ?_
                            refine r_iconst (v := 1) rfl (by decide) ?_
                            refine r_iadd rfl ?_
                            refine r_iald8 rfl h (fun v83 h => ?_)
                            refine r_aload_n rfl rfl ?_
                            refine r_iload_n rfl rfl ?_
                            refine r_iconst (v := 2) rfl (by decide) ?_
                            refine r_iadd rfl ?_
                            refine r_iald8 rfl h (fun v84 h => ?_)
                            refine r_aload_n rfl rfl ?_
                            refine r_iload_n rfl rfl ?_
                            refine r_iconst (v := 3) rfl (by decide) ?_
                            refine r_iadd rfl ?_
                            refine r_iald8 rfl h (fun v85 h => ?_)
                            refine r_aload_n rfl rfl ?_
                            refine r_iload_n rfl rfl ?_
                            refine r_iconst (v := 4) rfl (by decide) ?_
                            refine r_iadd rfl ?_
                            refine r_iald8 rfl h (fun v86 h => ?_)
                            refine r_aload_n rfl rfl ?_
                            refine r_iload_n rfl rfl ?_
                            refine r_iconst (v := 5) rfl (by decide) ?_
                            refine r_iadd rfl ?_
                            refine r_iald8 rfl h (fun v87 h => ?_)
                            refine r_cv_i (vs := [.int v83, .int v84, .int v85, .int v86, .int v87]) (d := 0 + 7) rfl ml_RL_76 rfl ⟨Nat.le_of_ble_eq_true rfl, Nat.le_of_ble_eq_true rfl⟩ ⟨Nat.le_of_ble_eq_true rfl, Nat.le_of_ble_eq_true rfl⟩ rfl rfl rfl h (s_X12_play (d := 0)) (fun v88 M36 h => ?_)
                            refine r_ic_eq 1001 rfl (by decide) h (fun h => ?_) (fun h => ?_)
                            · refine r_iinc (v := 6) (lo' := [some (va_rf r0), some (va_rf r1), some (va_rf r2), some (.int (i3 + (6 : Int32)))]) rfl rfl rfl (by decide) (by simp [stOk, cat_rf]) rfl ?_
                              refine r_goto 38 rfl (by decide) ?_
                              exact hq38 _ _ _ _ _ h
                            · refine r_iconst (v := 0) rfl (by decide) ?_
                              exact r_lawret ⟨Nat.le_of_ble_eq_true rfl, Nat.le_of_ble_eq_true rfl⟩ rfl h
                          · refine r_swc h (fun h => ?_) (fun h => ?_)
                            · refine r_aload_n rfl rfl ?_
                              refine r_aload_n rfl rfl ?_
                              refine r_iload_n rfl rfl ?_
                              refine r_iconst (v := 1) rfl (by decide) ?_
                              refine r_iadd rfl ?_
                              refine r_iald8 rfl h (fun v73 h => ?_)
                              refine r_cv_i (vs := [.int v73]) (d := 0 + 7) rfl ml_RL_77 rfl ⟨Nat.le_of_ble_eq_true rfl, Nat.le_of_ble_eq_true rfl⟩ ⟨Nat.le_of_ble_eq_true rfl, Nat.le_of_ble_eq_true rfl⟩ rfl rfl rfl h (s_X11_run (d := 0)) (fun v74 M33 h => ?_)
                              refine r_aload_n rfl rfl ?_
                              refine r_aload_n rfl rfl ?_
                              refine r_iload_n rfl rfl ?_
                              refine r_iconst (v := 1) rfl (by decide) ?_
                              refine r_iadd rfl ?_
                              refine r_iald8 rfl h (fun v75 h => ?_)
                              refine r_cv_i (vs := [.int v75]) (d := 0 + 8) rfl ml_RL_80 rfl ⟨Nat.le_of_ble_eq_true rfl, Nat.le_of_ble_eq_true rfl⟩ ⟨Nat.le_of_ble_eq_true rfl, Nat.le_of_ble_eq_true rfl⟩ rfl rfl rfl h (s_X12_run (d := 0)) (fun v76 M34 h => ?_)
                              refine r_ic_eq 1001 rfl (by decide) h (fun h => ?_) (fun h => ?_)
                              · refine r_iinc (v := 6) (lo' := [some (va_rf r0), some (va_rf r1), some (va_rf r2), some (.int (i3 + (6 : Int32)))]) rfl rfl rfl (by decide) (by simp [stOk, cat_rf]) rfl ?_
                                refine r_goto 38 rfl (by decide) ?_
                                exact hq38 _ _ _ _ _ h
                              · refine r_iconst (v := 0) rfl (by decide) ?_
                                exact r_lawret ⟨Nat.le_of_ble_eq_true rfl, Nat.le_of_ble_eq_true rfl⟩ rfl h
                            · refine r_swc h (fun h => ?_) (fun h => ?_)
                              · refine r_aload_n rfl rfl ?_
                                refine r_cv_i (vs := []) (d := 0 + 6) rfl ml_RL_81 rfl ⟨Nat.le_of_ble_eq_true rfl, Nat.le_of_ble_eq_true rfl⟩ ⟨Nat.le_of_ble_eq_true rfl, Nat.le_of_ble_eq_true rfl⟩ rfl rfl rfl h (s_X11_won (d := 0)) (fun v71 M31 h => ?_)
                                refine r_aload_n rfl rfl ?_
                                refine r_cv_i (vs := []) (d := 0 + 7) rfl ml_RL_84 rfl ⟨Nat.le_of_ble_eq_true rfl, Nat.le_of_ble_eq_true rfl⟩ ⟨Nat.le_of_ble_eq_true rfl, Nat.le_of_ble_eq_true rfl⟩ rfl rfl rfl h (s_X12_won (d := 0)) (fun v72 M32 h => ?_)
                                refine r_ic_eq 1001 rfl (by decide) h (fun h => ?_) (fun h => ?_)
                                · refine r_iinc (v := 6) (lo' := [some (va_rf r0), some (va_rf r1), some (va_rf r2), some (.int (i3 + (6 : Int32)))]) rfl rfl rfl (by decide) (by simp [stOk, cat_rf]) rfl ?_
                                  refine r_goto 38 rfl (by decide) ?_
                                  exact hq38 _ _ _ _ _ h
                                · refine r_iconst (v := 0) rfl (by decide) ?_
                                  exact r_lawret ⟨Nat.le_of_ble_eq_true rfl, Nat.le_of_ble_eq_true rfl⟩ rfl h
                              · refine r_swc h (fun h => ?_) (fun h => ?_)
                                · refine r_aload_n rfl rfl ?_
                                  refine r_aload_n rfl rfl ?_
                                  refine r_iload_n rfl rfl ?_
                                  refine r_iconst (v := 1) rfl (by decide) ?_
                                  refine r_iadd rfl ?_
                                  refine r_iald8 rfl h (fun v59 h => ?_)
                                  refine r_aload_n rfl rfl ?_
                                  refine r_iload_n rfl rfl ?_
                                  refine r_iconst (v := 2) rfl (by decide) ?_
                                  refine r_iadd rfl ?_
                                  refine r_iald8 rfl h (fun v60 h => ?_)
                                  refine r_aload_n rfl rfl ?_
                                  refine r_iload_n rfl rfl ?_
                                  refine r_iconst (v := 3) rfl (by decide) ?_
                                  refine r_iadd rfl ?_
                                  refine r_iald8 rfl h (fun v61 h => ?_)
                                  refine r_aload_n rfl rfl ?_
                                  refine r_iload_n rfl rfl ?_
                                  refine r_iconst (v := 4) rfl (by decide) ?_
                                  refine r_iadd rfl ?_
                                  refine r_iald8 rfl h (fun v62 h => ?_)
                                  refine r_aload_n rfl rfl ?_
                                  refine r_iload_n rfl rfl ?_
                                  refine r_iconst (v := 5) rfl (by decide) ?_
                                  refine r_iadd rfl ?_
                                  refine r_iald8 rfl h (fun v63 h => ?_)
                                  refine r_cv_i (vs := [.int v59, .int v60, .int v61, .int v62, .int v63]) (d := 0 + 1) rfl ml_RL_85 rfl ⟨Nat.le_of_ble_eq_true rfl, Nat.le_of_ble_eq_true rfl⟩ ⟨Nat.le_of_ble_eq_true rfl, Nat.le_of_ble_eq_true rfl⟩ rfl rfl rfl h (s_X11_ply (d := 0)) (fun v64 M29 h => ?_)
                                  refine r_aload_n rfl rfl ?_
                                  refine r_aload_n rfl rfl ?_
                                  refine r_iload_n rfl rfl ?_
                                  refine r_iconst (v := 1) rfl (by decide) ?_
                                  refine r_iadd rfl ?_
                                  refine r_iald8 rfl h (fun v65 h => ?_)
                                  refine r_aload_n rfl rfl ?_
                                  refine r_iload_n rfl rfl ?_
                                  refine r_iconst (v := 2) rfl (by decide) ?_
                                  refine r_iadd rfl ?_
                                  refine r_iald8 rfl h (fun v66 h => ?_)
                                  refine r_aload_n rfl rfl ?_
                                  refine r_iload_n rfl rfl ?_
                                  refine r_iconst (v := 3) rfl (by decide) ?_
                                  refine r_iadd rfl ?_
                                  refine r_iald8 rfl h (fun v67 h => ?_)
                                  refine r_aload_n rfl rfl ?_
                                  refine r_iload_n rfl rfl ?_
                                  refine r_iconst (v := 4) rfl (by decide) ?_
                                  refine r_iadd rfl ?_
                                  refine r_iald8 rfl h (fun v68 h => ?_)
                                  refine r_aload_n rfl rfl ?_
                                  refine r_iload_n rfl rfl ?_
                                  refine r_iconst (v := 5) rfl (by decide) ?_
                                  refine r_iadd rfl ?_
                                  refine r_iald8 rfl h (fun v69 h => ?_)
                                  refine r_cv_i (vs := [.int v65, .int v66, .int v67, .int v68, .int v69]) (d := 0 + 2) rfl ml_RL_88 rfl ⟨Nat.le_of_ble_eq_true rfl, Nat.le_of_ble_eq_true rfl⟩ ⟨Nat.le_of_ble_eq_true rfl, Nat.le_of_ble_eq_true rfl⟩ rfl rfl rfl h (s_X12_ply (d := 0)) (fun v70 M30 h => ?_)
                                  refine r_ic_eq 1001 rfl (by decide) h (fun h => ?_) (fun h => ?_)
                                  · refine r_iinc (v := 6) (lo' := [some (va_rf r0), some (va_rf r1), some (va_rf r2), some (.int (i3 + (6 : Int32)))]) rfl rfl rfl (by decide) (by simp [stOk, cat_rf]) rfl ?_
                                    refine r_goto 38 rfl (by decide) ?_
                                    exact hq38 _ _ _ _ _ h
                                  · refine r_iconst (v := 0) rfl (by decide) ?_
                                    exact r_lawret ⟨Nat.le_of_ble_eq_true rfl, Nat.le_of_ble_eq_true rfl⟩ rfl h
                                · refine r_swc h (fun h => ?_) (fun h => ?_)
                                  · refine r_aload_n rfl rfl ?_
                                    refine r_cv_i (vs := []) (d := 0 + 7) rfl ml_RL_89 rfl ⟨Nat.le_of_ble_eq_true rfl, Nat.le_of_ble_eq_true rfl⟩ ⟨Nat.le_of_ble_eq_true rfl, Nat.le_of_ble_eq_true rfl⟩ rfl rfl rfl h (s_X11_judge (d := 0)) (fun v57 M27 h => ?_)
                                    refine r_aload_n rfl rfl ?_
                                    refine r_cv_i (vs := []) (d := 0 + 8) rfl ml_RL_92 rfl ⟨Nat.le_of_ble_eq_true rfl, Nat.le_of_ble_eq_true rfl⟩ ⟨Nat.le_of_ble_eq_true rfl, Nat.le_of_ble_eq_true rfl⟩ rfl rfl rfl h (s_X12_judge (d := 0)) (fun v58 M28 h => ?_)
                                    refine r_ic_eq 1001 rfl (by decide) h (fun h => ?_) (fun h => ?_)
                                    · refine r_iinc (v := 6) (lo' := [some (va_rf r0), some (va_rf r1), some (va_rf r2), some (.int (i3 + (6 : Int32)))]) rfl rfl rfl (by decide) (by simp [stOk, cat_rf]) rfl ?_
                                      refine r_goto 38 rfl (by decide) ?_
                                      exact hq38 _ _ _ _ _ h
                                    · refine r_iconst (v := 0) rfl (by decide) ?_
                                      exact r_lawret ⟨Nat.le_of_ble_eq_true rfl, Nat.le_of_ble_eq_true rfl⟩ rfl h
                                  · refine r_swc h (fun h => ?_) (fun h => ?_)
                                    · refine r_aload_n rfl rfl ?_
                                      refine r_cv_i (vs := []) (d := 0 + 7) rfl ml_RL_93 rfl ⟨Nat.le_of_ble_eq_true rfl, Nat.le_of_ble_eq_true rfl⟩ ⟨Nat.le_of_ble_eq_true rfl, Nat.le_of_ble_eq_true rfl⟩ rfl rfl rfl h (s_X11_again (d := 0)) (fun v55 M25 h => ?_)
                                      refine r_aload_n rfl rfl ?_
                                      refine r_cv_i (vs := []) (d := 0 + 8) rfl ml_RL_96 rfl ⟨Nat.le_of_ble_eq_true rfl, Nat.le_of_ble_eq_true rfl⟩ ⟨Nat.le_of_ble_eq_true rfl, Nat.le_of_ble_eq_true rfl⟩ rfl rfl rfl h (s_X12_again (d := 0)) (fun v56 M26 h => ?_)
                                      refine r_ic_eq 1001 rfl (by decide) h (fun h => ?_) (fun h => ?_)
                                      · refine r_iinc (v := 6) (lo' := [some (va_rf r0), some (va_rf r1), some (va_rf r2), some (.int (i3 + (6 : Int32)))]) rfl rfl rfl (by decide) (by simp [stOk, cat_rf]) rfl ?_
                                        refine r_goto 38 rfl (by decide) ?_
                                        exact hq38 _ _ _ _ _ h
                                      · refine r_iconst (v := 0) rfl (by decide) ?_
                                        exact r_lawret ⟨Nat.le_of_ble_eq_true rfl, Nat.le_of_ble_eq_true rfl⟩ rfl h
                                    · refine r_swc h (fun h => ?_) (fun h => ?_)
                                      · refine r_aload_n rfl rfl ?_
                                        refine r_aload_n rfl rfl ?_
                                        refine r_iload_n rfl rfl ?_
                                        refine r_iconst (v := 1) rfl (by decide) ?_
                                        refine r_iadd rfl ?_
                                        refine r_iald8 rfl h (fun v49 h => ?_)
                                        refine r_aload_n rfl rfl ?_
                                        refine r_iload_n rfl rfl ?_
                                        refine r_iconst (v := 2) rfl (by decide) ?_
                                        refine r_iadd rfl ?_
                                        refine r_iald8 rfl h (fun v50 h => ?_)
                                        refine r_cv_i (vs := [.int v49, .int v50]) (d := 0 + 7) rfl ml_RL_97 rfl ⟨Nat.le_of_ble_eq_true rfl, Nat.le_of_ble_eq_true rfl⟩ ⟨Nat.le_of_ble_eq_true rfl, Nat.le_of_ble_eq_true rfl⟩ rfl rfl rfl h (s_X11_match (d := 0)) (fun v51 M23 h => ?_)
                                        refine r_aload_n rfl rfl ?_
                                        refine r_aload_n rfl rfl ?_
                                        refine r_iload_n rfl rfl ?_
                                        refine r_iconst (v := 1) rfl (by decide) ?_
                                        refine r_iadd rfl ?_
                                        refine r_iald8 rfl h (fun v52 h => ?_)
                                        refine r_aload_n rfl rfl ?_
                                        refine r_iload_n rfl rfl ?_
                                        refine r_iconst (v := 2) rfl (by decide) ?_
                                        refine r_iadd rfl ?_
                                        refine r_iald8 rfl h (fun v53 h => ?_)
                                        refine r_cv_i (vs := [.int v52, .int v53]) (d := 0 + 8) rfl ml_RL_100 rfl ⟨Nat.le_of_ble_eq_true rfl, Nat.le_of_ble_eq_true rfl⟩ ⟨Nat.le_of_ble_eq_true rfl, Nat.le_of_ble_eq_true rfl⟩ rfl rfl rfl h (s_X12_match (d := 0)) (fun v54 M24 h => ?_)
                                        refine r_ic_eq 1001 rfl (by decide) h (fun h => ?_) (fun h => ?_)
                                        · refine r_iinc (v := 6) (lo' := [some (va_rf r0), some (va_rf r1), some (va_rf r2), some (.int (i3 + (6 : Int32)))]) rfl rfl rfl (by decide) (by simp [stOk, cat_rf]) rfl ?_
                                          refine r_goto 38 rfl (by decide) ?_
                                          exact hq38 _ _ _ _ _ h
                                        · refine r_iconst (v := 0) rfl (by decide) ?_
                                          exact r_lawret ⟨Nat.le_of_ble_eq_true rfl, Nat.le_of_ble_eq_true rfl⟩ rfl h
                                      · refine r_swc h (fun h => ?_) (fun h => ?_)
                                        · refine r_aload_n rfl rfl ?_
                                          refine r_aload_n rfl rfl ?_
                                          refine r_iload_n rfl rfl ?_
                                          refine r_iconst (v := 1) rfl (by decide) ?_
                                          refine r_iadd rfl ?_
                                          refine r_iald8 rfl h (fun v41 h => ?_)
                                          refine r_aload_n rfl rfl ?_
                                          refine r_iload_n rfl rfl ?_
                                          refine r_iconst (v := 2) rfl (by decide) ?_
                                          refine r_iadd rfl ?_
                                          refine r_iald8 rfl h (fun v42 h => ?_)
                                          refine r_aload_n rfl rfl ?_
                                          refine r_iload_n rfl rfl ?_
                                          refine r_iconst (v := 3) rfl (by decide) ?_
                                          refine r_iadd rfl ?_
                                          refine r_iald8 rfl h (fun v43 h => ?_)
                                          refine r_cv_i (vs := [.int v41, .int v42, .int v43]) (d := 0 + 7) rfl ml_RL_101 rfl ⟨Nat.le_of_ble_eq_true rfl, Nat.le_of_ble_eq_true rfl⟩ ⟨Nat.le_of_ble_eq_true rfl, Nat.le_of_ble_eq_true rfl⟩ rfl rfl rfl h (s_X11_drawn (d := 0)) (fun v44 M21 h => ?_)
                                          refine r_aload_n rfl rfl ?_
                                          refine r_aload_n rfl rfl ?_
                                          refine r_iload_n rfl rfl ?_
                                          refine r_iconst (v := 1) rfl (by decide) ?_
                                          refine r_iadd rfl ?_
                                          refine r_iald8 rfl h (fun v45 h => ?_)
                                          refine r_aload_n rfl rfl ?_
                                          refine r_iload_n rfl rfl ?_
                                          refine r_iconst (v := 2) rfl (by decide) ?_
                                          refine r_iadd rfl ?_
                                          refine r_iald8 rfl h (fun v46 h => ?_)
                                          refine r_aload_n rfl rfl ?_
                                          refine r_iload_n rfl rfl ?_
                                          refine r_iconst (v := 3) rfl (by decide) ?_
                                          refine r_iadd rfl ?_
                                          refine r_iald8 rfl h (fun v47 h => ?_)
                                          refine r_cv_i (vs := [.int v45, .int v46, .int v47]) (d := 0 + 7) rfl ml_RL_105 rfl ⟨Nat.le_of_ble_eq_true rfl, Nat.le_of_ble_eq_true rfl⟩ ⟨Nat.le_of_ble_eq_true rfl, Nat.le_of_ble_eq_true rfl⟩ rfl rfl rfl h (s_X12_drawn (d := 0)) (fun v48 M22 h => ?_)
                                          refine r_ic_eq 1001 rfl (by decide) h (fun h => ?_) (fun h => ?_)
                                          · refine r_iinc (v := 6) (lo' := [some (va_rf r0), some (va_rf r1), some (va_rf r2), some (.int (i3 + (6 : Int32)))]) rfl rfl rfl (by decide) (by simp [stOk, cat_rf]) rfl ?_
                                            refine r_goto 38 rfl (by decide) ?_
                                            exact hq38 _ _ _ _ _ h
                                          · refine r_iconst (v := 0) rfl (by decide) ?_
                                            exact r_lawret ⟨Nat.le_of_ble_eq_true rfl, Nat.le_of_ble_eq_true rfl⟩ rfl h
                                        · refine r_swc h (fun h => ?_) (fun h => ?_)
                                          · refine r_aload_n rfl rfl ?_
                                            refine r_cv_i (vs := []) (d := 0 + 7) rfl ml_RL_106 rfl ⟨Nat.le_of_ble_eq_true rfl, Nat.le_of_ble_eq_true rfl⟩ ⟨Nat.le_of_ble_eq_true rfl, Nat.le_of_ble_eq_true rfl⟩ rfl rfl rfl h (s_X11_states (d := 0)) (fun v39 M19 h => ?_)
                                            refine r_aload_n rfl rfl ?_
                                            refine r_cv_i (vs := []) (d := 0 + 8) rfl ml_RL_109 rfl ⟨Nat.le_of_ble_eq_true rfl, Nat.le_of_ble_eq_true rfl⟩ ⟨Nat.le_of_ble_eq_true rfl, Nat.le_of_ble_eq_true rfl⟩ rfl rfl rfl h (s_X12_states (d := 0)) (fun v40 M20 h => ?_)
                                            refine r_ic_eq 1001 rfl (by decide) h (fun h => ?_) (fun h => ?_)
                                            · refine r_iinc (v := 6) (lo' := [some (va_rf r0), some (va_rf r1), some (va_rf r2), some (.int (i3 + (6 : Int32)))]) rfl rfl rfl (by decide) (by simp [stOk, cat_rf]) rfl ?_
                                              refine r_goto 38 rfl (by decide) ?_
                                              exact hq38 _ _ _ _ _ h
                                            · refine r_iconst (v := 0) rfl (by decide) ?_
                                              exact r_lawret ⟨Nat.le_of_ble_eq_true rfl, Nat.le_of_ble_eq_true rfl⟩ rfl h
                                          · refine r_swc h (fun h => ?_) (fun h => ?_)
                                            · refine r_aload_n rfl rfl ?_
                                              refine r_aload_n rfl rfl ?_
                                              refine r_iload_n rfl rfl ?_
                                              refine r_iconst (v := 1) rfl (by decide) ?_
                                              refine r_iadd rfl ?_
                                              refine r_iald8 rfl h (fun v35 h => ?_)
                                              refine r_cv_i (vs := [.int v35]) (d := 0 + 7) rfl ml_RL_110 rfl ⟨Nat.le_of_ble_eq_true rfl, Nat.le_of_ble_eq_true rfl⟩ ⟨Nat.le_of_ble_eq_true rfl, Nat.le_of_ble_eq_true rfl⟩ rfl rfl rfl h (s_X11_best (d := 0)) (fun v36 M17 h => ?_)
                                              refine r_aload_n rfl rfl ?_
                                              refine r_aload_n rfl rfl ?_
                                              refine r_iload_n rfl rfl ?_
                                              refine r_iconst (v := 1) rfl (by decide) ?_
                                              refine r_iadd rfl ?_
                                              refine r_iald8 rfl h (fun v37 h => ?_)
                                              refine r_cv_i (vs := [.int v37]) (d := 0 + 9) rfl ml_RL_113 rfl ⟨Nat.le_of_ble_eq_true rfl, Nat.le_of_ble_eq_true rfl⟩ ⟨Nat.le_of_ble_eq_true rfl, Nat.le_of_ble_eq_true rfl⟩ rfl rfl rfl h (s_X12_best (d := 0)) (fun v38 M18 h => ?_)
                                              refine r_ic_eq 1001 rfl (by decide) h (fun h => ?_) (fun h => ?_)
                                              · refine r_iinc (v := 6) (lo' := [some (va_rf r0), some (va_rf r1), some (va_rf r2), some (.int (i3 + (6 : Int32)))]) rfl rfl rfl (by decide) (by simp [stOk, cat_rf]) rfl ?_
                                                refine r_goto 38 rfl (by decide) ?_
                                                exact hq38 _ _ _ _ _ h
                                              · refine r_iconst (v := 0) rfl (by decide) ?_
                                                exact r_lawret ⟨Nat.le_of_ble_eq_true rfl, Nat.le_of_ble_eq_true rfl⟩ rfl h
                                            · refine r_swc h (fun h => ?_) (fun h => ?_)
                                              · refine r_aload_n rfl rfl ?_
                                                refine r_aload_n rfl rfl ?_
                                                refine r_iload_n rfl rfl ?_
                                                refine r_iconst (v := 1) rfl (by decide) ?_
                                                refine r_iadd rfl ?_
                                                refine r_iald8 rfl h (fun v31 h => ?_)
                                                refine r_cv_i (vs := [.int v31]) (d := 0 + 7) rfl ml_RL_114 rfl ⟨Nat.le_of_ble_eq_true rfl, Nat.le_of_ble_eq_true rfl⟩ ⟨Nat.le_of_ble_eq_true rfl, Nat.le_of_ble_eq_true rfl⟩ rfl rfl rfl h (s_X11_good (d := 0)) (fun v32 M15 h => ?_)
                                                refine r_aload_n rfl rfl ?_
                                                refine r_aload_n rfl rfl ?_
                                                refine r_iload_n rfl rfl ?_
                                                refine r_iconst (v := 1) rfl (by decide) ?_
                                                refine r_iadd rfl ?_
                                                refine r_iald8 rfl h (fun v33 h => ?_)
                                                refine r_cv_i (vs := [.int v33]) (d := 0 + 9) rfl ml_RL_117 rfl ⟨Nat.le_of_ble_eq_true rfl, Nat.le_of_ble_eq_true rfl⟩ ⟨Nat.le_of_ble_eq_true rfl, Nat.le_of_ble_eq_true rfl⟩ rfl rfl rfl h (s_X12_good (d := 0)) (fun v34 M16 h => ?_)
                                                refine r_ic_eq 1001 rfl (by decide) h (fun h => ?_) (fun h => ?_)
                                                · refine r_iinc (v := 6) (lo' := [some (va_rf r0), some (va_rf r1), some (va_rf r2), some (.int (i3 + (6 : Int32)))]) rfl rfl rfl (by decide) (by simp [stOk, cat_rf]) rfl ?_
                                                  refine r_goto 38 rfl (by decide) ?_
                                                  exact hq38 _ _ _ _ _ h
                                                · refine r_iconst (v := 0) rfl (by decide) ?_
                                                  exact r_lawret ⟨Nat.le_of_ble_eq_true rfl, Nat.le_of_ble_eq_true rfl⟩ rfl h
                                              · refine r_swc h (fun h => ?_) (fun h => ?_)
                                                · refine r_aload_n rfl rfl ?_
                                                  refine r_aload_n rfl rfl ?_
                                                  refine r_iload_n rfl rfl ?_
                                                  refine r_iconst (v := 1) rfl (by decide) ?_
                                                  refine r_iadd rfl ?_
                                                  refine r_iald8 rfl h (fun v23 h => ?_)
                                                  refine r_aload_n rfl rfl ?_
                                                  refine r_iload_n rfl rfl ?_
                                                  refine r_iconst (v := 2) rfl (by decide) ?_
                                                  refine r_iadd rfl ?_
                                                  refine r_iald8 rfl h (fun v24 h => ?_)
                                                  refine r_aload_n rfl rfl ?_
                                                  refine r_iload_n rfl rfl ?_
                                                  refine r_iconst (v := 3) rfl (by decide) ?_
                                                  refine r_iadd rfl ?_
                                                  refine r_iald8 rfl h (fun v25 h => ?_)
                                                  refine r_cv_i (vs := [.int v23, .int v24, .int v25]) (d := 0 + 7) rfl ml_RL_118 rfl ⟨Nat.le_of_ble_eq_true rfl, Nat.le_of_ble_eq_true rfl⟩ ⟨Nat.le_of_ble_eq_true rfl, Nat.le_of_ble_eq_true rfl⟩ rfl rfl rfl h (s_X11_loses (d := 0)) (fun v26 M13 h => ?_)
                                                  refine r_aload_n rfl rfl ?_
                                                  refine r_aload_n rfl rfl ?_
                                                  refine r_iload_n rfl rfl ?_
                                                  refine r_iconst (v := 1) rfl (by decide) ?_
                                                  refine r_iadd rfl ?_
                                                  refine r_iald8 rfl h (fun v27 h => ?_)
                                                  refine r_aload_n rfl rfl ?_
                                                  refine r_iload_n rfl rfl ?_
                                                  refine r_iconst (v := 2) rfl (by decide) ?_
                                                  refine r_iadd rfl ?_
                                                  refine r_iald8 rfl h (fun v28 h => ?_)
                                                  refine r_aload_n rfl rfl ?_
                                                  refine r_iload_n rfl rfl ?_
                                                  refine r_iconst (v := 3) rfl (by decide) ?_
                                                  refine r_iadd rfl ?_
                                                  refine r_iald8 rfl h (fun v29 h => ?_)
                                                  refine r_cv_i (vs := [.int v27, .int v28, .int v29]) (d := 0 + 9) rfl ml_RL_121 rfl ⟨Nat.le_of_ble_eq_true rfl, Nat.le_of_ble_eq_true rfl⟩ ⟨Nat.le_of_ble_eq_true rfl, Nat.le_of_ble_eq_true rfl⟩ rfl rfl rfl h (s_X12_loses (d := 0)) (fun v30 M14 h => ?_)
                                                  refine r_ic_eq 1001 rfl (by decide) h (fun h => ?_) (fun h => ?_)
                                                  · refine r_iinc (v := 6) (lo' := [some (va_rf r0), some (va_rf r1), some (va_rf r2), some (.int (i3 + (6 : Int32)))]) rfl rfl rfl (by decide) (by simp [stOk, cat_rf]) rfl ?_
                                                    refine r_goto 38 rfl (by decide) ?_
                                                    exact hq38 _ _ _ _ _ h
                                                  · refine r_iconst (v := 0) rfl (by decide) ?_
                                                    exact r_lawret ⟨Nat.le_of_ble_eq_true rfl, Nat.le_of_ble_eq_true rfl⟩ rfl h
                                                · refine r_swc h (fun h => ?_) (fun h => ?_)
                                                  · refine r_aload_n rfl rfl ?_
                                                    refine r_aload_n rfl rfl ?_
                                                    refine r_iload_n rfl rfl ?_
                                                    refine r_iconst (v := 1) rfl (by decide) ?_
                                                    refine r_iadd rfl ?_
                                                    refine r_iald8 rfl h (fun v17 h => ?_)
                                                    refine r_aload_n rfl rfl ?_
                                                    refine r_iload_n rfl rfl ?_
                                                    refine r_iconst (v := 2) rfl (by decide) ?_
                                                    refine r_iadd rfl ?_
                                                    refine r_iald8 rfl h (fun v18 h => ?_)
                                                    refine r_cv_i (vs := [.int v17, .int v18]) (d := 0 + 7) rfl ml_RL_122 rfl ⟨Nat.le_of_ble_eq_true rfl, Nat.le_of_ble_eq_true rfl⟩ ⟨Nat.le_of_ble_eq_true rfl, Nat.le_of_ble_eq_true rfl⟩ rfl rfl rfl h (s_X11_line (d := 0)) (fun v19 M11 h => ?_)
                                                    refine r_aload_n rfl rfl ?_
                                                    refine r_aload_n rfl rfl ?_
                                                    refine r_iload_n rfl rfl ?_
                                                    refine r_iconst (v := 1) rfl (by decide) ?_
                                                    refine r_iadd rfl ?_
                                                    refine r_iald8 rfl h (fun v20 h => ?_)
                                                    refine r_aload_n rfl rfl ?_
                                                    refine r_iload_n rfl rfl ?_
                                                    refine r_iconst (v := 2) rfl (by decide) ?_
                                                    refine r_iadd rfl ?_
                                                    refine r_iald8 rfl h (fun v21 h => ?_)
                                                    refine r_cv_i (vs := [.int v20, .int v21]) (d := 0 + 9) rfl ml_RL_125 rfl ⟨Nat.le_of_ble_eq_true rfl, Nat.le_of_ble_eq_true rfl⟩ ⟨Nat.le_of_ble_eq_true rfl, Nat.le_of_ble_eq_true rfl⟩ rfl rfl rfl h (s_X12_line (d := 0)) (fun v22 M12 h => ?_)
                                                    refine r_ic_eq 1001 rfl (by decide) h (fun h => ?_) (fun h => ?_)
                                                    · refine r_iinc (v := 6) (lo' := [some (va_rf r0), some (va_rf r1), some (va_rf r2), some (.int (i3 + (6 : Int32)))]) rfl rfl rfl (by decide) (by simp [stOk, cat_rf]) rfl ?_
                                                      refine r_goto 38 rfl (by decide) ?_
                                                      exact hq38 _ _ _ _ _ h
                                                    · refine r_iconst (v := 0) rfl (by decide) ?_
                                                      exact r_lawret ⟨Nat.le_of_ble_eq_true rfl, Nat.le_of_ble_eq_true rfl⟩ rfl h
                                                  · refine r_swc h (fun h => ?_) (fun h => ?_)
                                                    · refine r_aload_n rfl rfl ?_
                                                      refine r_cv_i (vs := []) (d := 0 + 7) rfl ml_RL_126 rfl ⟨Nat.le_of_ble_eq_true rfl, Nat.le_of_ble_eq_true rfl⟩ ⟨Nat.le_of_ble_eq_true rfl, Nat.le_of_ble_eq_true rfl⟩ rfl rfl rfl h (s_X11_runs (d := 0)) (fun v15 M9 h => ?_)
                                                      refine r_aload_n rfl rfl ?_
                                                      refine r_cv_i (vs := []) (d := 0 + 8) rfl ml_RL_129 rfl ⟨Nat.le_of_ble_eq_true rfl, Nat.le_of_ble_eq_true rfl⟩ ⟨Nat.le_of_ble_eq_true rfl, Nat.le_of_ble_eq_true rfl⟩ rfl rfl rfl h (s_X12_runs (d := 0)) (fun v16 M10 h => ?_)
                                                      refine r_ic_eq 1001 rfl (by decide) h (fun h => ?_) (fun h => ?_)
                                                      · refine r_iinc (v := 6) (lo' := [some (va_rf r0), some (va_rf r1), some (va_rf r2), some (.int (i3 + (6 : Int32)))]) rfl rfl rfl (by decide) (by simp [stOk, cat_rf]) rfl ?_
                                                        refine r_goto 38 rfl (by decide) ?_
                                                        exact hq38 _ _ _ _ _ h
                                                      · refine r_iconst (v := 0) rfl (by decide) ?_
                                                        exact r_lawret ⟨Nat.le_of_ble_eq_true rfl, Nat.le_of_ble_eq_true rfl⟩ rfl h
                                                    · refine r_swc h (fun h => ?_) (fun h => ?_)
                                                      · refine r_aload_n rfl rfl ?_
                                                        refine r_aload_n rfl rfl ?_
                                                        refine r_iload_n rfl rfl ?_
                                                        refine r_iconst (v := 1) rfl (by decide) ?_
                                                        refine r_iadd rfl ?_
                                                        refine r_iald8 rfl h (fun v11 h => ?_)
                                                        refine r_cv_i (vs := [.int v11]) (d := 0 + 7) rfl ml_RL_130 rfl ⟨Nat.le_of_ble_eq_true rfl, Nat.le_of_ble_eq_true rfl⟩ ⟨Nat.le_of_ble_eq_true rfl, Nat.le_of_ble_eq_true rfl⟩ rfl rfl rfl h (s_X11_balanced (d := 0)) (fun v12 M7 h => ?_)
                                                        refine r_aload_n rfl rfl ?_
                                                        refine r_aload_n rfl rfl ?_
                                                        refine r_iload_n rfl rfl ?_
                                                        refine r_iconst (v := 1) rfl (by decide) ?_
                                                        refine r_iadd rfl ?_
                                                        refine r_iald8 rfl h (fun v13 h => ?_)
                                                        refine r_cv_i (vs := [.int v13]) (d := 0 + 9) rfl ml_RL_133 rfl ⟨Nat.le_of_ble_eq_true rfl, Nat.le_of_ble_eq_true rfl⟩ ⟨Nat.le_of_ble_eq_true rfl, Nat.le_of_ble_eq_true rfl⟩ rfl rfl rfl h (s_X12_balanced (d := 0)) (fun v14 M8 h => ?_)
                                                        refine r_ic_eq 1001 rfl (by decide) h (fun h => ?_) (fun h => ?_)
                                                        · refine r_iinc (v := 6) (lo' := [some (va_rf r0), some (va_rf r1), some (va_rf r2), some (.int (i3 + (6 : Int32)))]) rfl rfl rfl (by decide) (by simp [stOk, cat_rf]) rfl ?_
                                                          refine r_goto 38 rfl (by decide) ?_
                                                          exact hq38 _ _ _ _ _ h
                                                        · refine r_iconst (v := 0) rfl (by decide) ?_
                                                          exact r_lawret ⟨Nat.le_of_ble_eq_true rfl, Nat.le_of_ble_eq_true rfl⟩ rfl h
                                                      · refine r_swc h (fun h => ?_) (fun h => ?_)
                                                        · refine r_aload_n rfl rfl ?_
                                                          refine r_cv_i (vs := []) (d := 0 + 3) rfl ml_RL_134 rfl ⟨Nat.le_of_ble_eq_true rfl, Nat.le_of_ble_eq_true rfl⟩ ⟨Nat.le_of_ble_eq_true rfl, Nat.le_of_ble_eq_true rfl⟩ rfl rfl rfl h (s_X11_image (d := 0)) (fun v9 M5 h => ?_)
                                                          refine r_aload_n rfl rfl ?_
                                                          refine r_cv_i (vs := []) (d := 0 + 2) rfl ml_RL_137 rfl ⟨Nat.le_of_ble_eq_true rfl, Nat.le_of_ble_eq_true rfl⟩ ⟨Nat.le_of_ble_eq_true rfl, Nat.le_of_ble_eq_true rfl⟩ rfl rfl rfl h (s_X12_image (d := 0)) (fun v10 M6 h => ?_)
                                                          refine r_ic_eq 1001 rfl (by decide) h (fun h => ?_) (fun h => ?_)
                                                          · refine r_iinc (v := 6) (lo' := [some (va_rf r0), some (va_rf r1), some (va_rf r2), some (.int (i3 + (6 : Int32)))]) rfl rfl rfl (by decide) (by simp [stOk, cat_rf]) rfl ?_
                                                            refine r_goto 38 rfl (by decide) ?_
                                                            exact hq38 _ _ _ _ _ h
                                                          · refine r_iconst (v := 0) rfl (by decide) ?_
                                                            exact r_lawret ⟨Nat.le_of_ble_eq_true rfl, Nat.le_of_ble_eq_true rfl⟩ rfl h
                                                        · refine r_swc h (fun h => ?_) (fun h => ?_)
                                                          · refine r_aload_n rfl rfl ?_
                                                            refine r_cv_i (vs := []) (d := 0 + 3) rfl ml_RL_138 rfl ⟨Nat.le_of_ble_eq_true rfl, Nat.le_of_ble_eq_true rfl⟩ ⟨Nat.le_of_ble_eq_true rfl, Nat.le_of_ble_eq_true rfl⟩ rfl rfl rfl h (s_X11_back (d := 0)) (fun v7 M3 h => ?_)
                                                            refine r_aload_n rfl rfl ?_
                                                            refine r_cv_i (vs := []) (d := 0 + 2) rfl ml_RL_141 rfl ⟨Nat.le_of_ble_eq_true rfl, Nat.le_of_ble_eq_true rfl⟩ ⟨Nat.le_of_ble_eq_true rfl, Nat.le_of_ble_eq_true rfl⟩ rfl rfl rfl h (s_X12_back (d := 0)) (fun v8 M4 h => ?_)
                                                            refine r_ic_eq 1001 rfl (by decide) h (fun h => ?_) (fun h => ?_)
                                                            · refine r_iinc (v := 6) (lo' := [some (va_rf r0), some (va_rf r1), some (va_rf r2), some (.int (i3 + (6 : Int32)))]) rfl rfl rfl (by decide) (by simp [stOk, cat_rf]) rfl ?_
                                                              refine r_goto 38 rfl (by decide) ?_
                                                              exact hq38 _ _ _ _ _ h
                                                            · refine r_iconst (v := 0) rfl (by decide) ?_
                                                              exact r_lawret ⟨Nat.le_of_ble_eq_true rfl, Nat.le_of_ble_eq_true rfl⟩ rfl h
                                                          · refine r_swc h (fun h => ?_) (fun h => ?_)
                                                            · refine r_aload_n rfl rfl ?_
                                                              refine r_aload_n rfl rfl ?_
                                                              refine r_iload_n rfl rfl ?_
                                                              refine r_iconst (v := 1) rfl (by decide) ?_
                                                              refine r_iadd rfl ?_
                                                              refine r_iald8 rfl h (fun v3 h => ?_)
                                                              refine r_cv_i (vs := [.int v3]) (d := 0 + 1) rfl ml_RL_142 rfl ⟨Nat.le_of_ble_eq_true rfl, Nat.le_of_ble_eq_true rfl⟩ ⟨Nat.le_of_ble_eq_true rfl, Nat.le_of_ble_eq_true rfl⟩ rfl rfl rfl h (s_X11_about (d := 0)) (fun v4 M1 h => ?_)
                                                              refine r_aload_n rfl rfl ?_
                                                              refine r_aload_n rfl rfl ?_
                                                              refine r_iload_n rfl rfl ?_
                                                              refine r_iconst (v := 1) rfl (by decide) ?_
                                                              refine r_iadd rfl ?_
                                                              refine r_iald8 rfl h (fun v5 h => ?_)
                                                              refine r_cv_i (vs := [.int v5]) (d := 0 + 2) rfl ml_RL_145 rfl ⟨Nat.le_of_ble_eq_true rfl, Nat.le_of_ble_eq_true rfl⟩ ⟨Nat.le_of_ble_eq_true rfl, Nat.le_of_ble_eq_true rfl⟩ rfl rfl rfl h (s_X12_about (d := 0)) (fun v6 M2 h => ?_)
                                                              refine r_ic_eq 1001 rfl (by decide) h (fun h => ?_) (fun h => ?_)
                                                              · refine r_iinc (v := 6) (lo' := [some (va_rf r0), some (va_rf r1), some (va_rf r2), some (.int (i3 + (6 : Int32)))]) rfl rfl rfl (by decide) (by simp [stOk, cat_rf]) rfl ?_
                                                                refine r_goto 38 rfl (by decide) ?_
                                                                exact hq38 _ _ _ _ _ h
                                                              · refine r_iconst (v := 0) rfl (by decide) ?_
                                                                exact r_lawret ⟨Nat.le_of_ble_eq_true rfl, Nat.le_of_ble_eq_true rfl⟩ rfl h
                                                            · refine r_swd ?_
                                                              refine r_iinc (v := 6) (lo' := [some (va_rf r0), some (va_rf r1), some (va_rf r2), some (.int (i3 + (6 : Int32)))]) rfl rfl rfl (by decide) (by simp [stOk, cat_rf]) rfl ?_
                                                              refine r_goto 38 rfl (by decide) ?_
                                                              exact hq38 _ _ _ _ _ h
theorem s_L_law_38    : ∀ (k : Nat) (r0 : Option Nat) (r1 : Option Nat) (r2 : Option Nat) (i3 : Int32) (M : Mem), FQ (f_L_law_38  k r0 r1 r2 i3 M) P_law → wp Y_L_law room_1 F_law 295 471486 38 [some (va_rf r0), some (va_rf r1), some (va_rf r2), some (.int i3)] [] M
  | 0, _, _, _, _, _, h => h.no
  | k + 1, r0, r1, r2, i3, M, h => sb_L_law_38  (s_L_law_38  k) r0 r1 r2 i3 M h
theorem s_L_law {r0 : Option Nat} {M : Mem} (h : FQ (f_L_law r0 M) P_law) : wp Y_L_law room_1 F_law 0 0 0 [some (va_rf r0), none, none, none] [] M := by
  unfold f_L_law at h
  refine r_new rfl cn_RL_7 ⟨Nat.le_of_ble_eq_true rfl, Nat.le_of_ble_eq_true rfl⟩ h (fun v1 M1 h => ?_)
  refine r_dup rfl (cat_rf _) ?_
  refine r_aload_n rfl rfl ?_
  refine r_iconst (v := 0) rfl (by decide) ?_
  refine r_cs_i (vs := [va_rf r0, .int (0 : Int32)]) (d := 0) rfl ml_RL_9 ⟨Nat.le_of_ble_eq_true rfl, Nat.le_of_ble_eq_true rfl⟩ ⟨Nat.le_of_ble_eq_true rfl, Nat.le_of_ble_eq_true rfl⟩ rfl rfl rfl h (s_L_cell (d := 0)) (fun v2 M2 h => ?_)
  refine r_aload_n rfl rfl ?_
  refine r_iconst (v := 1) rfl (by decide) ?_
  refine r_cs_i (vs := [va_rf r0, .int (1 : Int32)]) (d := 0) rfl ml_RL_9 ⟨Nat.le_of_ble_eq_true rfl, Nat.le_of_ble_eq_true rfl⟩ ⟨Nat.le_of_ble_eq_true rfl, Nat.le_of_ble_eq_true rfl⟩ rfl rfl rfl h (s_L_cell (d := 0)) (fun v3 M3 h => ?_)
  refine r_ci_v (mc := 254) (ms := 315400) (vs := [.int v2, .int v3]) (d := 0 + 3) rfl ml_RL_15 ⟨Nat.le_of_ble_eq_true rfl, Nat.le_of_ble_eq_true rfl⟩ ⟨Nat.le_of_ble_eq_true rfl, Nat.le_of_ble_eq_true rfl⟩ rfl rfl rfl h (s_X11_init (d := 0)) (fun _ M4 h => ?_)
  refine r_astore_n (lo' := [some (va_rf r0), some (va_rf v1), none, none]) rfl rfl (by simp [stOk, cat_rf]) rfl ?_
  refine r_new rfl cn_RL_18 ⟨Nat.le_of_ble_eq_true rfl, Nat.le_of_ble_eq_true rfl⟩ h (fun v4 M5 h => ?_)
  refine r_dup rfl (cat_rf _) ?_
  refine r_aload_n rfl rfl ?_
  refine r_iconst (v := 0) rfl (by decide) ?_
  refine r_cs_i (vs := [va_rf r0, .int (0 : Int32)]) (d := 0) rfl ml_RL_9 ⟨Nat.le_of_ble_eq_true rfl, Nat.le_of_ble_eq_true rfl⟩ ⟨Nat.le_of_ble_eq_true rfl, Nat.le_of_ble_eq_true rfl⟩ rfl rfl rfl h (s_L_cell (d := 0)) (fun v5 M6 h => ?_)
  refine r_aload_n rfl rfl ?_
  refine r_iconst (v := 1) rfl (by decide) ?_
  refine r_cs_i (vs := [va_rf r0, .int (1 : Int32)]) (d := 0) rfl ml_RL_9 ⟨Nat.le_of_ble_eq_true rfl, Nat.le_of_ble_eq_true rfl⟩ ⟨Nat.le_of_ble_eq_true rfl, Nat.le_of_ble_eq_true rfl⟩ rfl rfl rfl h (s_L_cell (d := 0)) (fun v6 M7 h => ?_)
  refine r_ci_v (mc := 39) (ms := 156000) (vs := [.int v5, .int v6]) (d := 0 + 1) rfl ml_RL_20 ⟨Nat.le_of_ble_eq_true rfl, Nat.le_of_ble_eq_true rfl⟩ ⟨Nat.le_of_ble_eq_true rfl, Nat.le_of_ble_eq_true rfl⟩ rfl rfl rfl h (s_X12_init (d := 0)) (fun _ M8 h => ?_)
  refine r_astore_n (lo' := [some (va_rf r0), some (va_rf v1), some (va_rf v4), none]) rfl rfl (by simp [stOk, cat_rf]) rfl ?_
  refine r_iconst (v := 2) rfl (by decide) ?_
  refine r_istore_n (lo' := [some (va_rf r0), some (va_rf v1), some (va_rf v4), some (.int (2 : Int32))]) rfl rfl (by simp [stOk, cat_rf]) rfl ?_
  exact s_L_law_38 FU _ _ _ _ _ h
