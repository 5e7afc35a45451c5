/-! printed by wip/whole/gen/law.py: the law's loop -/
def f_L_law_b1113 (xs : Nat → Int32) (Ln : Nat) (r18 : Int32 → Sg → Sg → Rs) (x3 : Int32) (σ τ : Sg) : Rs := r18 (x3 + 5) σ τ
set_option maxRecDepth 100000 in
set_option maxHeartbeats 8000000 in
theorem k_L_law_b1113 {q : Mc} {E : En} {b Ln : Nat} {xs : Nat → Int32} {Q : State → Prop} {c s : Nat} {o : Int32 × Sg} (C : Cl q E b Ln xs cL_law 4 RL) (hcs : c ≤ 600000 ∧ s ≤ 7302250) (hend : ∀ (σ τ : Sg) (lv : List (Nat × Value)), some ((1 : Int32), σ) = some o → Lx q E 4 Q c s 1120 lv [.int 1] σ τ) (r18 : Int32 → Sg → Sg → Rs) (hr18 : ∀ (x3 : Int32) (σ τ : Sg), r18 x3 σ τ = some o → Lx q E 4 Q c s 18 [(0, .ref b), (1, .ref (E.2.1 (0))), (2, .ref (E.2.1 (103))), (3, .int x3)] [] σ τ) (x3 : Int32) (σ τ : Sg) (hf : f_L_law_b1113 xs Ln r18 x3 σ τ = some o) : Lx q E 4 Q c s 1113 [(0, .ref b), (1, .ref (E.2.1 (0))), (2, .ref (E.2.1 (103))), (3, .int x3)] [] σ τ := by
  unfold f_L_law_b1113 at hf
  refine l_iinc (v := x3 + 5) (lv' := [(0, .ref b), (1, .ref (E.2.1 (0))), (2, .ref (E.2.1 (103))), (3, .int (x3 + 5))]) 1113 C dL_law_1113 rfl (by rfl) (by decide) rfl rfl ?_
  refine l_goto (tgt := 18) 1116 C dL_law_1116 (by decide) ?_
  exact Lx.lv [0, 1, 2, 3] rfl (hr18 (x3 + 5) σ τ hf)
def f_L_law_b18 (xs : Nat → Int32) (Ln : Nat)  : Nat → Int32 → Sg → Sg → Rs
  | 0, _, _, _ => none
  | n + 1, x3, σ, τ => if ((Int32.ofNat Ln) - 5) < x3 then (some (1, σ)) else (p_xs xs Ln x3 (fun v1 => if (v1 &&& 63) = 0 then (p_xs xs Ln (x3 + 1) (fun v2 => p_xs xs Ln (x3 + 2) (fun v3 => p_xs xs Ln (x3 + 3) (fun v4 => p_call (f_X10_feed 0 v2 ((((v3 : Int32).toInt64) <<< ((32 : Int32).toInt64 &&& 63)) ||| (((v4 : Int32).toInt64) &&& 4294967295)) σ) (fun v5 s6 => p_xs xs Ln (x3 + 1) (fun v7 => p_xs xs Ln (x3 + 2) (fun v8 => p_xs xs Ln (x3 + 3) (fun v9 => p_call (f_X11_feed 103 v7 ((((v8 : Int32).toInt64) <<< ((32 : Int32).toInt64 &&& 63)) ||| (((v9 : Int32).toInt64) &&& 4294967295)) τ) (fun v10 s11 => f_L_law_b1113 xs Ln (f_L_law_b18 xs Ln n) x3 s6 s11))))))))) else (if (v1 &&& 63) = 1 then (p_call (f_X10_puzzle 0 σ) (fun v12 s13 => p_call (f_X11_puzzle 103 τ) (fun v14 s15 => f_L_law_b1113 xs Ln (f_L_law_b18 xs Ln n) x3 s13 s15))) else (if (v1 &&& 63) = 2 then (p_xs xs Ln (x3 + 1) (fun v16 => p_xs xs Ln (x3 + 2) (fun v17 => p_xs xs Ln (x3 + 3) (fun v18 => p_call (f_X10_side 0 v16 v17 v18 σ) (fun v19 s20 => p_xs xs Ln (x3 + 1) (fun v21 => p_xs xs Ln (x3 + 2) (fun v22 => p_xs xs Ln (x3 + 3) (fun v23 => p_call (f_X11_side 103 v21 v22 v23 τ) (fun v24 s25 => f_L_law_b1113 xs Ln (f_L_law_b18 xs Ln n) x3 s20 s25))))))))) else (if (v1 &&& 63) = 3 then (p_xs xs Ln (x3 + 1) (fun v26 => p_call (f_X10_colour 0 v26 σ) (fun v27 s28 => p_xs xs Ln (x3 + 1) (fun v29 => p_call (f_X11_colour 103 v29 τ) (fun v30 s31 => f_L_law_b1113 xs Ln (f_L_law_b18 xs Ln n) x3 s28 s31))))) else (if (v1 &&& 63) = 4 then (p_xs xs Ln (x3 + 1) (fun v32 => p_xs xs Ln (x3 + 2) (fun v33 => p_call (f_X10_person 0 v32 v33 σ) (fun v34 s35 => p_xs xs Ln (x3 + 1) (fun v36 => p_xs xs Ln (x3 + 2) (fun v37 => p_call (f_X11_person 103 v36 v37 τ) (fun v38 s39 => f_L_law_b1113 xs Ln (f_L_law_b18 xs Ln n) x3 s35 s39))))))) else (if (v1 &&& 63) = 5 then (p_xs xs Ln (x3 + 1) (fun v40 => p_xs xs Ln (x3 + 2) (fun v41 => p_call (f_X10_laid 0 v40 v41 σ) (fun v42 s43 => p_xs xs Ln (x3 + 1) (fun v44 => p_xs xs Ln (x3 + 2) (fun v45 => p_call (f_X11_laid 103 v44 v45 τ) (fun v46 s47 => f_L_law_b1113 xs Ln (f_L_law_b18 xs Ln n) x3 s43 s47))))))) else (if (v1 &&& 63) = 6 then (p_xs xs Ln (x3 + 1) (fun v48 => p_xs xs Ln (x3 + 2) (fun v49 => p_xs xs Ln (x3 + 3) (fun v50 => p_call (f_X10_fits 0 v48 v49 v50 σ) (fun v51 s52 => p_xs xs Ln (x3 + 1) (fun v53 => p_xs xs Ln (x3 + 2) (fun v54 => p_xs xs Ln (x3 + 3) (fun v55 => p_call (f_X11_fits 103 v53 v54 v55 τ) (fun v56 s57 => f_L_law_b1113 xs Ln (f_L_law_b18 xs Ln n) x3 s52 s57))))))))) else (if (v1 &&& 63) = 7 then (p_xs xs Ln (x3 + 1) (fun v58 => p_xs xs Ln (x3 + 2) (fun v59 => p_xs xs Ln (x3 + 3) (fun v60 => p_xs xs Ln (x3 + 4) (fun v61 => p_call (f_X10_seconds 0 v58 v59 v60 v61 σ) (fun v62 s63 => p_xs xs Ln (x3 + 1) (fun v64 => p_xs xs Ln (x3 + 2) (fun v65 => p_xs xs Ln (x3 + 3) (fun v66 => p_xs xs Ln (x3 + 4) (fun v67 => p_call (f_X11_seconds 103 v64 v65 v66 v67 τ) (fun v68 s69 => f_L_law_b1113 xs Ln (f_L_law_b18 xs Ln n) x3 s63 s69))))))))))) else (if (v1 &&& 63) = 8 then (p_xs xs Ln (x3 + 1) (fun v70 => p_xs xs Ln (x3 + 2) (fun v71 => p_xs xs Ln (x3 + 3) (fun v72 => p_xs xs Ln (x3 + 4) (fun v73 => p_call (f_X10_tryIt 0 v70 v71 v72 v73 σ) (fun v74 s75 => p_xs xs Ln (x3 + 1) (fun v76 => p_xs xs Ln (x3 + 2) (fun v77 => p_xs xs Ln (x3 + 3) (fun v78 => p_xs xs Ln (x3 + 4) (fun v79 => p_call (f_X11_tryIt 103 v76 v77 v78 v79 τ) (fun v80 s81 => f_L_law_b1113 xs Ln (f_L_law_b18 xs Ln n) x3 s75 s81))))))))))) else (if (v1 &&& 63) = 9 then (p_xs xs Ln (x3 + 1) (fun v82 => p_call (f_X10_lift 0 v82 σ) (fun v83 s84 => p_xs xs Ln (x3 + 1) (fun v85 => p_call (f_X11_lift 103 v85 τ) (fun v86 s87 => f_L_law_b1113 xs Ln (f_L_law_b18 xs Ln n) x3 s84 s87))))) else (if (v1 &&& 63) = 10 then (p_xs xs Ln (x3 + 1) (fun v88 => p_call (f_X10_pocket 0 v88 σ) (fun v89 s90 => p_xs xs Ln (x3 + 1) (fun v91 => p_call (f_X11_pocket 103 v91 τ) (fun v92 s93 => f_L_law_b1113 xs Ln (f_L_law_b18 xs Ln n) x3 s90 s93))))) else (if (v1 &&& 63) = 11 then (p_xs xs Ln (x3 + 1) (fun v94 => p_call (f_X10_find 0 v94 σ) (fun v95 s96 => p_xs xs Ln (x3 + 1) (fun v97 => p_call (f_X11_find 103 v97 τ) (fun v98 s99 => f_L_law_b1113 xs Ln (f_L_law_b18 xs Ln n) x3 s96 s99))))) else (if (v1 &&& 63) = 12 then (p_xs xs Ln (x3 + 1) (fun v100 => p_call (f_X10_ways 0 v100 σ) (fun v101 s102 => p_xs xs Ln (x3 + 1) (fun v103 => p_call (f_X11_ways 103 v103 τ) (fun v104 s105 => f_L_law_b1113 xs Ln (f_L_law_b18 xs Ln n) x3 s102 s105))))) else (if (v1 &&& 63) = 13 then (p_xs xs Ln (x3 + 1) (fun v106 => p_xs xs Ln (x3 + 2) (fun v107 => p_call (f_X10_first 0 v106 v107 σ) (fun v108 s109 => p_xs xs Ln (x3 + 1) (fun v110 => p_xs xs Ln (x3 + 2) (fun v111 => p_call (f_X11_first 103 v110 v111 τ) (fun v112 s113 => f_L_law_b1113 xs Ln (f_L_law_b18 xs Ln n) x3 s109 s113))))))) else (if (v1 &&& 63) = 14 then (p_xs xs Ln (x3 + 1) (fun v114 => p_xs xs Ln (x3 + 2) (fun v115 => p_call (f_X10_done 0 v114 v115 σ) (fun v116 s117 => p_xs xs Ln (x3 + 1) (fun v118 => p_xs xs Ln (x3 + 2) (fun v119 => p_call (f_X11_done 103 v118 v119 τ) (fun v120 s121 => f_L_law_b1113 xs Ln (f_L_law_b18 xs Ln n) x3 s117 s121))))))) else (if (v1 &&& 63) = 15 then (p_xs xs Ln (x3 + 1) (fun v122 => p_xs xs Ln (x3 + 2) (fun v123 => p_call (f_X10_half 0 v122 v123 σ) (fun v124 s125 => p_xs xs Ln (x3 + 1) (fun v126 => p_xs xs Ln (x3 + 2) (fun v127 => p_call (f_X11_half 103 v126 v127 τ) (fun v128 s129 => f_L_law_b1113 xs Ln (f_L_law_b18 xs Ln n) x3 s125 s129))))))) else (if (v1 &&& 63) = 16 then (p_xs xs Ln (x3 + 1) (fun v130 => p_call (f_X10_bestRule 0 v130 σ) (fun v131 s132 => p_xs xs Ln (x3 + 1) (fun v133 => p_call (f_X11_bestRule 103 v133 τ) (fun v134 s135 => f_L_law_b1113 xs Ln (f_L_law_b18 xs Ln n) x3 s132 s135))))) else (if (v1 &&& 63) = 17 then (p_xs xs Ln (x3 + 1) (fun v136 => p_xs xs Ln (x3 + 2) (fun v137 => p_call (f_X10_table 0 v136 v137 σ) (fun v138 s139 => p_xs xs Ln (x3 + 1) (fun v140 => p_xs xs Ln (x3 + 2) (fun v141 => p_call (f_X11_table 103 v140 v141 τ) (fun v142 s143 => f_L_law_b1113 xs Ln (f_L_law_b18 xs Ln n) x3 s139 s143))))))) else (if (v1 &&& 63) = 18 then (p_xs xs Ln (x3 + 1) (fun v144 => p_call (f_X10_line 0 v144 σ) (fun v145 s146 => p_xs xs Ln (x3 + 1) (fun v147 => p_call (f_X11_line 103 v147 τ) (fun v148 s149 => f_L_law_b1113 xs Ln (f_L_law_b18 xs Ln n) x3 s146 s149))))) else (if (v1 &&& 63) = 19 then (p_call (f_X10_seems 0 σ) (fun v150 s151 => p_call (f_X11_seems 103 τ) (fun v152 s153 => f_L_law_b1113 xs Ln (f_L_law_b18 xs Ln n) x3 s151 s153))) else (if (v1 &&& 63) = 20 then (p_call (f_X10_wrong 0 σ) (fun v154 s155 => p_call (f_X11_wrong 103 τ) (fun v156 s157 => f_L_law_b1113 xs Ln (f_L_law_b18 xs Ln n) x3 s155 s157))) else (if (v1 &&& 63) = 21 then (p_call (f_X10_falseOne 0 σ) (fun v158 s159 => p_call (f_X11_falseOne 103 τ) (fun v160 s161 => f_L_law_b1113 xs Ln (f_L_law_b18 xs Ln n) x3 s159 s161))) else (if (v1 &&& 63) = 22 then (p_call (f_X10_over 0 σ) (fun v162 s163 => p_call (f_X11_over 103 τ) (fun v164 s165 => f_L_law_b1113 xs Ln (f_L_law_b18 xs Ln n) x3 s163 s165))) else (if (v1 &&& 63) = 23 then (p_xs xs Ln (x3 + 1) (fun v166 => p_call (f_X10_balance 0 v166 σ) (fun v167 s168 => p_xs xs Ln (x3 + 1) (fun v169 => p_call (f_X11_balance 103 v169 τ) (fun v170 s171 => f_L_law_b1113 xs Ln (f_L_law_b18 xs Ln n) x3 s168 s171))))) else (if (v1 &&& 63) = 24 then (p_call (f_X10_lacks 0 σ) (fun v172 s173 => p_call (f_X11_lacks 103 τ) (fun v174 s175 => f_L_law_b1113 xs Ln (f_L_law_b18 xs Ln n) x3 s173 s175))) else (if (v1 &&& 63) = 25 then (p_call (f_X10_which 0 σ) (fun v176 s177 => p_call (f_X11_which 103 τ) (fun v178 s179 => f_L_law_b1113 xs Ln (f_L_law_b18 xs Ln n) x3 s177 s179))) else (if (v1 &&& 63) = 26 then (p_xs xs Ln (x3 + 1) (fun v180 => p_xs xs Ln (x3 + 2) (fun v181 => p_call (f_X10_mine 0 v180 v181 σ) (fun v182 s183 => p_xs xs Ln (x3 + 1) (fun v184 => p_xs xs Ln (x3 + 2) (fun v185 => p_call (f_X11_mine 103 v184 v185 τ) (fun v186 s187 => f_L_law_b1113 xs Ln (f_L_law_b18 xs Ln n) x3 s183 s187))))))) else (if (v1 &&& 63) = 27 then (p_call (f_X10_hardest 0 σ) (fun v188 s189 => p_call (f_X11_hardest 103 τ) (fun v190 s191 => f_L_law_b1113 xs Ln (f_L_law_b18 xs Ln n) x3 s189 s191))) else (if (v1 &&& 63) = 28 then (p_xs xs Ln (x3 + 1) (fun v192 => p_xs xs Ln (x3 + 2) (fun v193 => p_call (f_X10_keeper 0 v192 v193 σ) (fun v194 s195 => p_xs xs Ln (x3 + 1) (fun v196 => p_xs xs Ln (x3 + 2) (fun v197 => p_call (f_X11_keeper 103 v196 v197 τ) (fun v198 s199 => f_L_law_b1113 xs Ln (f_L_law_b18 xs Ln n) x3 s195 s199))))))) else (if (v1 &&& 63) = 29 then (p_xs xs Ln (x3 + 1) (fun v200 => p_xs xs Ln (x3 + 2) (fun v201 => p_call (f_X10_evening 0 v200 v201 σ) (fun v202 s203 => p_xs xs Ln (x3 + 1) (fun v204 => p_xs xs Ln (x3 + 2) (fun v205 => p_call (f_X11_evening 103 v204 v205 τ) (fun v206 s207 => f_L_law_b1113 xs Ln (f_L_law_b18 xs Ln n) x3 s203 s207))))))) else (if (v1 &&& 63) = 30 then (p_xs xs Ln (x3 + 1) (fun v208 => p_call (f_X10_row 0 v208 σ) (fun v209 s210 => p_xs xs Ln (x3 + 1) (fun v211 => p_call (f_X11_row 103 v211 τ) (fun v212 s213 => f_L_law_b1113 xs Ln (f_L_law_b18 xs Ln n) x3 s210 s213))))) else (if (v1 &&& 63) = 31 then (p_call (f_X10_judge 0 σ) (fun v214 s215 => p_call (f_X11_judge 103 τ) (fun v216 s217 => f_L_law_b1113 xs Ln (f_L_law_b18 xs Ln n) x3 s215 s217))) else (if (v1 &&& 63) = 32 then (p_call (f_X10_image 0 σ) (fun v218 s219 => p_call (f_X11_image 103 τ) (fun v220 s221 => f_L_law_b1113 xs Ln (f_L_law_b18 xs Ln n) x3 s219 s221))) else (if (v1 &&& 63) = 33 then (p_call (f_X10_on 0 σ) (fun v222 s223 => p_call (f_X11_on 103 τ) (fun v224 s225 => if v222 = v224 then (f_L_law_b1113 xs Ln (f_L_law_b18 xs Ln n) x3 s223 s225) else (none)))) else (if (v1 &&& 63) = 34 then (p_xs xs Ln (x3 + 1) (fun v226 => p_call (f_X10_count 0 v226 σ) (fun v227 s228 => p_xs xs Ln (x3 + 1) (fun v229 => p_call (f_X11_count 103 v229 τ) (fun v230 s231 => f_L_law_b1113 xs Ln (f_L_law_b18 xs Ln n) x3 s228 s231))))) else (f_L_law_b1113 xs Ln (f_L_law_b18 xs Ln n) x3 σ τ)))))))))))))))))))))))))))))))))))))
set_option maxRecDepth 100000 in
set_option maxHeartbeats 8000000 in
theorem k_L_law_b18 {q : Mc} {E : En} {b Ln : Nat} {xs : Nat → Int32} {Q : State → Prop} {c s : Nat} {o : Int32 × Sg} (C : Cl q E b Ln xs cL_law 4 RL) (hcs : c ≤ 600000 ∧ s ≤ 7302250) (hend : ∀ (σ τ : Sg) (lv : List (Nat × Value)), some ((1 : Int32), σ) = some o → Lx q E 4 Q c s 1120 lv [.int 1] σ τ)  (n : Nat) : ∀ (x3 : Int32) (σ τ : Sg), f_L_law_b18 xs Ln  n x3 σ τ = some o → Lx q E 4 Q c s 18 [(0, .ref b), (1, .ref (E.2.1 (0))), (2, .ref (E.2.1 (103))), (3, .int x3)] [] σ τ := by
  induction n with
  | zero => intro x3 σ τ hf; cases (show (none : Rs) = some o from hf)
  | succ n ih =>
    intro x3 σ τ hf
    rw [f_L_law_b18] at hf
    refine l_iload_n 18 C dL_law_18 rfl rfl ?_
    refine l_aload_n 19 C dL_law_19 rfl rfl ?_
    refine l_slen 20 C dL_law_20 ?_
    refine l_iconst (v := 5) 21 C dL_law_21 (by decide) ?_
    refine l_isub 22 C dL_law_22 ?_
    refine l_icmp_gt (tgt := 1119) 23 C dL_law_23 (by decide) hf (fun hf => ?_) (fun hf => ?_)
    · refine l_iconst (v := 1) 1119 C dL_law_1119 (by decide) ?_
      exact hend σ τ [(0, .ref b), (1, .ref (E.2.1 (0))), (2, .ref (E.2.1 (103))), (3, .int x3)] hf
    · refine l_aload_n 26 C dL_law_26 rfl rfl ?_
      refine l_iload_n 27 C dL_law_27 rfl rfl ?_
      refine l_sld 28 C dL_law_28 hf (fun v1 hf => ?_)
      refine l_bipush (v := 63) 29 C dL_law_29 (by decide) ?_
      refine l_iand 31 C dL_law_31 ?_
      refine l_case (v := 0) hf (fun hx hf => ?_) (fun hn0 hf => ?_)
      · refine l_tabIn (tgt := 188) 32 C hx dL_law_32 (by decide) rfl (by decide) ?_
        refine l_aload_n 188 C dL_law_188 rfl rfl ?_
        refine l_aload_n 189 C dL_law_189 rfl rfl ?_
        refine l_iload_n 190 C dL_law_190 rfl rfl ?_
        refine l_iconst (v := 1) 191 C dL_law_191 (by decide) ?_
        refine l_iadd 192 C dL_law_192 ?_
        refine l_sld 193 C dL_law_193 hf (fun v2 hf => ?_)
        refine l_aload_n 194 C dL_law_194 rfl rfl ?_
        refine l_iload_n 195 C dL_law_195 rfl rfl ?_
        refine l_iconst (v := 2) 196 C dL_law_196 (by decide) ?_
        refine l_iadd 197 C dL_law_197 ?_
        refine l_sld 198 C dL_law_198 hf (fun v3 hf => ?_)
        refine l_i2l 199 C dL_law_199 ?_
        refine l_bipush (v := 32) 200 C dL_law_200 (by decide) ?_
        refine l_lshl 202 C dL_law_202 ?_
        refine l_aload_n 203 C dL_law_203 rfl rfl ?_
        refine l_iload_n 204 C dL_law_204 rfl rfl ?_
        refine l_iconst (v := 3) 205 C dL_law_205 (by decide) ?_
        refine l_iadd 206 C dL_law_206 ?_
        refine l_sld 207 C dL_law_207 hf (fun v4 hf => ?_)
        refine l_i2l 208 C dL_law_208 ?_
        refine l_ldc2 209 C co_L_13 dL_law_209 ?_
        refine l_land 212 C dL_law_212 ?_
        refine l_lor 213 C dL_law_213 ?_
        refine l_callX (st := []) 214 C [.int v2, .long ((((v3 : Int32).toInt64) <<< ((32 : Int32).toInt64 &&& 63)) ||| (((v4 : Int32).toInt64) &&& 4294967295))] lm_L_15 ly_X10_feed (bkX 0 _ rfl) (by decide) dL_law_214 rfl (by decide) rfl (Nat.le_of_ble_eq_true rfl) hcs (fun o1 h1 => m_X10_feed 0 bkX v2 ((((v3 : Int32).toInt64) <<< ((32 : Int32).toInt64 &&& 63)) ||| (((v4 : Int32).toInt64) &&& 4294967295)) σ o1 h1) hf (fun v5 s6 hf => ?_)
        refine l_pop 217 C dL_law_217 rfl ?_
        refine l_aload_n 218 C dL_law_218 rfl rfl ?_
        refine l_aload_n 219 C dL_law_219 rfl rfl ?_
        refine l_iload_n 220 C dL_law_220 rfl rfl ?_
        refine l_iconst (v := 1) 221 C dL_law_221 (by decide) ?_
        refine l_iadd 222 C dL_law_222 ?_
        refine l_sld 223 C dL_law_223 hf (fun v7 hf => ?_)
        refine l_aload_n 224 C dL_law_224 rfl rfl ?_
        refine l_iload_n 225 C dL_law_225 rfl rfl ?_
        refine l_iconst (v := 2) 226 C dL_law_226 (by decide) ?_
        refine l_iadd 227 C dL_law_227 ?_
        refine l_sld 228 C dL_law_228 hf (fun v8 hf => ?_)
        refine l_i2l 229 C dL_law_229 ?_
        refine l_bipush (v := 32) 230 C dL_law_230 (by decide) ?_
        refine l_lshl 232 C dL_law_232 ?_
        refine l_aload_n 233 C dL_law_233 rfl rfl ?_
        refine l_iload_n 234 C dL_law_234 rfl rfl ?_
        refine l_iconst (v := 3) 235 C dL_law_235 (by decide) ?_
        refine l_iadd 236 C dL_law_236 ?_
        refine l_sld 237 C dL_law_237 hf (fun v9 hf => ?_)
        refine l_i2l 238 C dL_law_238 ?_
        refine l_ldc2 239 C co_L_13 dL_law_239 ?_
        refine l_land 242 C dL_law_242 ?_
        refine l_lor 243 C dL_law_243 ?_
        refine l_callM (st := []) 244 C [.int v7, .long ((((v8 : Int32).toInt64) <<< ((32 : Int32).toInt64 &&& 63)) ||| (((v9 : Int32).toInt64) &&& 4294967295))] lm_L_19 ly_X11_feed (bkM 0 _ rfl) (by decide) dL_law_244 rfl (by decide) rfl (Nat.le_of_ble_eq_true rfl) hcs (fun o1 h1 => m_X11_feed 103 bkM v7 ((((v8 : Int32).toInt64) <<< ((32 : Int32).toInt64 &&& 63)) ||| (((v9 : Int32).toInt64) &&& 4294967295)) τ o1 h1) hf (fun v10 s11 hf => ?_)
        refine l_pop 247 C dL_law_247 rfl ?_
        refine l_goto (tgt := 1113) 248 C dL_law_248 (by decide) ?_
        exact Lx.lv [0, 1, 2, 3] rfl (k_L_law_b1113 C hcs hend (f_L_law_b18 xs Ln n) ih x3 s6 s11 hf)
      refine l_case (v := 1) hf (fun hx hf => ?_) (fun hn1 hf => ?_)
      · refine l_tabIn (tgt := 251) 32 C hx dL_law_32 (by decide) rfl (by decide) ?_
        refine l_aload_n 251 C dL_law_251 rfl rfl ?_
        refine l_callX (st := []) 252 C [] lm_L_20 ly_X10_puzzle (bkX 0 _ rfl) (by decide) dL_law_252 rfl (by decide) rfl (Nat.le_of_ble_eq_true rfl) hcs (fun o1 h1 => m_X10_puzzle 0 bkX  σ o1 h1) hf (fun v12 s13 hf => ?_)
        refine l_pop 255 C dL_law_255 rfl ?_
        refine l_aload_n 256 C dL_law_256 rfl rfl ?_
        refine l_callM (st := []) 257 C [] lm_L_24 ly_X11_puzzle (bkM 0 _ rfl) (by decide) dL_law_257 rfl (by decide) rfl (Nat.le_of_ble_eq_true rfl) hcs (fun o1 h1 => m_X11_puzzle 103 bkM  τ o1 h1) hf (fun v14 s15 hf => ?_)
        refine l_pop 260 C dL_law_260 rfl ?_
        refine l_goto (tgt := 1113) 261 C dL_law_261 (by decide) ?_
        exact Lx.lv [0, 1, 2, 3] rfl (k_L_law_b1113 C hcs hend (f_L_law_b18 xs Ln n) ih x3 s13 s15 hf)
      refine l_case (v := 2) hf (fun hx hf => ?_) (fun hn2 hf => ?_)
      · refine l_tabIn (tgt := 264) 32 C hx dL_law_32 (by decide) rfl (by decide) ?_
        refine l_aload_n 264 C dL_law_264 rfl rfl ?_
        refine l_aload_n 265 C dL_law_265 rfl rfl ?_
        refine l_iload_n 266 C dL_law_266 rfl rfl ?_
        refine l_iconst (v := 1) 267 C dL_law_267 (by decide) ?_
        refine l_iadd 268 C dL_law_268 ?_
        refine l_sld 269 C dL_law_269 hf (fun v16 hf => ?_)
        refine l_aload_n 270 C dL_law_270 rfl rfl ?_
        refine l_iload_n 271 C dL_law_271 rfl rfl ?_
        refine l_iconst (v := 2) 272 C dL_law_272 (by decide) ?_
        refine l_iadd 273 C dL_law_273 ?_
        refine l_sld 274 C dL_law_274 hf (fun v17 hf => ?_)
        refine l_aload_n 275 C dL_law_275 rfl rfl ?_
        refine l_iload_n 276 C dL_law_276 rfl rfl ?_
        refine l_iconst (v := 3) 277 C dL_law_277 (by decide) ?_
        refine l_iadd 278 C dL_law_278 ?_
        refine l_sld 279 C dL_law_279 hf (fun v18 hf => ?_)
        refine l_callX (st := []) 280 C [.int v16, .int v17, .int v18] lm_L_25 ly_X10_side (bkX 0 _ rfl) (by decide) dL_law_280 rfl (by decide) rfl (Nat.le_of_ble_eq_true rfl) hcs (fun o1 h1 => m_X10_side 0 bkX v16 v17 v18 σ o1 h1) hf (fun v19 s20 hf => ?_)
        refine l_pop 283 C dL_law_283 rfl ?_
        refine l_aload_n 284 C dL_law_284 rfl rfl ?_
        refine l_aload_n 285 C dL_law_285 rfl rfl ?_
        refine l_iload_n 286 C dL_law_286 rfl rfl ?_
        refine l_iconst (v := 1) 287 C dL_law_287 (by decide) ?_
        refine l_iadd 288 C dL_law_288 ?_
        refine l_sld 289 C dL_law_289 hf (fun v21 hf => ?_)
        refine l_aload_n 290 C dL_law_290 rfl rfl ?_
        refine l_iload_n 291 C dL_law_291 rfl rfl ?_
        refine l_iconst (v := 2) 292 C dL_law_292 (by decide) ?_
        refine l_iadd 293 C dL_law_293 ?_
        refine l_sld 294 C dL_law_294 hf (fun v22 hf => ?_)
        refine l_aload_n 295 C dL_law_295 rfl rfl ?_
        refine l_iload_n 296 C dL_law_296 rfl rfl ?_
        refine l_iconst (v := 3) 297 C dL_law_297 (by decide) ?_
        refine l_iadd 298 C dL_law_298 ?_
        refine l_sld 299 C dL_law_299 hf (fun v23 hf => ?_)
        refine l_callM (st := []) 300 C [.int v21, .int v22, .int v23] lm_L_29 ly_X11_side (bkM 0 _ rfl) (by decide) dL_law_300 rfl (by decide) rfl (Nat.le_of_ble_eq_true rfl) hcs (fun o1 h1 => m_X11_side 103 bkM v21 v22 v23 τ o1 h1) hf (fun v24 s25 hf => ?_)
        refine l_pop 303 C dL_law_303 rfl ?_
        refine l_goto (tgt := 1113) 304 C dL_law_304 (by decide) ?_
        exact Lx.lv [0, 1, 2, 3] rfl (k_L_law_b1113 C hcs hend (f_L_law_b18 xs Ln n) ih x3 s20 s25 hf)
      refine l_case (v := 3) hf (fun hx hf => ?_) (fun hn3 hf => ?_)
      · refine l_tabIn (tgt := 307) 32 C hx dL_law_32 (by decide) rfl (by decide) ?_
        refine l_aload_n 307 C dL_law_307 rfl rfl ?_
        refine l_aload_n 308 C dL_law_308 rfl rfl ?_
        refine l_iload_n 309 C dL_law_309 rfl rfl ?_
        refine l_iconst (v := 1) 310 C dL_law_310 (by decide) ?_
        refine l_iadd 311 C dL_law_311 ?_
        refine l_sld 312 C dL_law_312 hf (fun v26 hf => ?_)
        refine l_callX (st := []) 313 C [.int v26] lm_L_30 ly_X10_colour (bkX 0 _ rfl) (by decide) dL_law_313 rfl (by decide) rfl (Nat.le_of_ble_eq_true rfl) hcs (fun o1 h1 => m_X10_colour 0 bkX v26 σ o1 h1) hf (fun v27 s28 hf => ?_)
        refine l_pop 316 C dL_law_316 rfl ?_
        refine l_aload_n 317 C dL_law_317 rfl rfl ?_
        refine l_aload_n 318 C dL_law_318 rfl rfl ?_
        refine l_iload_n 319 C dL_law_319 rfl rfl ?_
        refine l_iconst (v := 1) 320 C dL_law_320 (by decide) ?_
        refine l_iadd 321 C dL_law_321 ?_
        refine l_sld 322 C dL_law_322 hf (fun v29 hf => ?_)
        refine l_callM (st := []) 323 C [.int v29] lm_L_34 ly_X11_colour (bkM 0 _ rfl) (by decide) dL_law_323 rfl (by decide) rfl (Nat.le_of_ble_eq_true rfl) hcs (fun o1 h1 => m_X11_colour 103 bkM v29 τ o1 h1) hf (fun v30 s31 hf => ?_)
        refine l_pop 326 C dL_law_326 rfl ?_
        refine l_goto (tgt := 1113) 327 C dL_law_327 (by decide) ?_
        exact Lx.lv [0, 1, 2, 3] rfl (k_L_law_b1113 C hcs hend (f_L_law_b18 xs Ln n) ih x3 s28 s31 hf)
      refine l_case (v := 4) hf (fun hx hf => ?_) (fun hn4 hf => ?_)
      · refine l_tabIn (tgt := 330) 32 C hx dL_law_32 (by decide) rfl (by decide) ?_
        refine l_aload_n 330 C dL_law_330 rfl rfl ?_
        refine l_aload_n 331 C dL_law_331 rfl rfl ?_
        refine l_iload_n 332 C dL_law_332 rfl rfl ?_
        refine l_iconst (v := 1) 333 C dL_law_333 (by decide) ?_
        refine l_iadd 334 C dL_law_334 ?_
        refine l_sld 335 C dL_law_335 hf (fun v32 hf => ?_)
        refine l_aload_n 336 C dL_law_336 rfl rfl ?_
        refine l_iload_n 337 C dL_law_337 rfl rfl ?_
        refine l_iconst (v := 2) 338 C dL_law_338 (by decide) ?_
        refine l_iadd 339 C dL_law_339 ?_
        refine l_sld 340 C dL_law_340 hf (fun v33 hf => ?_)
        refine l_callX (st := []) 341 C [.int v32, .int v33] lm_L_35 ly_X10_person (bkX 0 _ rfl) (by decide) dL_law_341 rfl (by decide) rfl (Nat.le_of_ble_eq_true rfl) hcs (fun o1 h1 => m_X10_person 0 bkX v32 v33 σ o1 h1) hf (fun v34 s35 hf => ?_)
        refine l_pop 344 C dL_law_344 rfl ?_
        refine l_aload_n 345 C dL_law_345 rfl rfl ?_
        refine l_aload_n 346 C dL_law_346 rfl rfl ?_
        refine l_iload_n 347 C dL_law_347 rfl rfl ?_
        refine l_iconst (v := 1) 348 C dL_law_348 (by decide) ?_
        refine l_iadd 349 C dL_law_349 ?_
        refine l_sld 350 C dL_law_350 hf (fun v36 hf => ?_)
        refine l_aload_n 351 C dL_law_351 rfl rfl ?_
        refine l_iload_n 352 C dL_law_352 rfl rfl ?_
        refine l_iconst (v := 2) 353 C dL_law_353 (by decide) ?_
        refine l_iadd 354 C dL_law_354 ?_
        refine l_sld 355 C dL_law_355 hf (fun v37 hf => ?_)
        refine l_callM (st := []) 356 C [.int v36, .int v37] lm_L_39 ly_X11_person (bkM 0 _ rfl) (by decide) dL_law_356 rfl (by decide) rfl (Nat.le_of_ble_eq_true rfl) hcs (fun o1 h1 => m_X11_person 103 bkM v36 v37 τ o1 h1) hf (fun v38 s39 hf => ?_)
        refine l_pop 359 C dL_law_359 rfl ?_
        refine l_goto (tgt := 1113) 360 C dL_law_360 (by decide) ?_
        exact Lx.lv [0, 1, 2, 3] rfl (k_L_law_b1113 C hcs hend (f_L_law_b18 xs Ln n) ih x3 s35 s39 hf)
      refine l_case (v := 5) hf (fun hx hf => ?_) (fun hn5 hf => ?_)
      · refine l_tabIn (tgt := 363) 32 C hx dL_law_32 (by decide) rfl (by decide) ?_
        refine l_aload_n 363 C dL_law_363 rfl rfl ?_
        refine l_aload_n 364 C dL_law_364 rfl rfl ?_
        refine l_iload_n 365 C dL_law_365 rfl rfl ?_
        refine l_iconst (v := 1) 366 C dL_law_366 (by decide) ?_
        refine l_iadd 367 C dL_law_367 ?_
        refine l_sld 368 C dL_law_368 hf (fun v40 hf => ?_)
        refine l_aload_n 369 C dL_law_369 rfl rfl ?_
        refine l_iload_n 370 C dL_law_370 rfl rfl ?_
        refine l_iconst (v := 2) 371 C dL_law_371 (by decide) ?_
        refine l_iadd 372 C dL_law_372 ?_
        refine l_sld 373 C dL_law_373 hf (fun v41 hf => ?_)
        refine l_callX (st := []) 374 C [.int v40, .int v41] lm_L_40 ly_X10_laid (bkX 0 _ rfl) (by decide) dL_law_374 rfl (by decide) rfl (Nat.le_of_ble_eq_true rfl) hcs (fun o1 h1 => m_X10_laid 0 bkX v40 v41 σ o1 h1) hf (fun v42 s43 hf => ?_)
        refine l_pop 377 C dL_law_377 rfl ?_
        refine l_aload_n 378 C dL_law_378 rfl rfl ?_
        refine l_aload_n 379 C dL_law_379 rfl rfl ?_
        refine l_iload_n 380 C dL_law_380 rfl rfl ?_
        refine l_iconst (v := 1) 381 C dL_law_381 (by decide) ?_
        refine l_iadd 382 C dL_law_382 ?_
        refine l_sld 383 C dL_law_383 hf (fun v44 hf => ?_)
        refine l_aload_n 384 C dL_law_384 rfl rfl ?_
        refine l_iload_n 385 C dL_law_385 rfl rfl ?_
        refine l_iconst (v := 2) 386 C dL_law_386 (by decide) ?_
        refine l_iadd 387 C dL_law_387 ?_
        refine l_sld 388 C dL_law_388 hf (fun v45 hf => ?_)
        refine l_callM (st := []) 389 C [.int v44, .int v45] lm_L_43 ly_X11_laid (bkM 0 _ rfl) (by decide) dL_law_389 rfl (by decide) rfl (Nat.le_of_ble_eq_true rfl) hcs (fun o1 h1 => m_X11_laid 103 bkM v44 v45 τ o1 h1) hf (fun v46 s47 hf => ?_)
        refine l_pop 392 C dL_law_392 rfl ?_
        refine l_goto (tgt := 1113) 393 C dL_law_393 (by decide) ?_
        exact Lx.lv [0, 1, 2, 3] rfl (k_L_law_b1113 C hcs hend (f_L_law_b18 xs Ln n) ih x3 s43 s47 hf)
      refine l_case (v := 6) hf (fun hx hf => ?_) (fun hn6 hf => ?_)
      · refine l_tabIn (tgt := 396) 32 C hx dL_law_32 (by decide) rfl (by decide) ?_
        refine l_aload_n 396 C dL_law_396 rfl rfl ?_
        refine l_aload_n 397 C dL_law_397 rfl rfl ?_
        refine l_iload_n 398 C dL_law_398 rfl rfl ?_
        refine l_iconst (v := 1) 399 C dL_law_399 (by decide) ?_
        refine l_iadd 400 C dL_law_400 ?_
        refine l_sld 401 C dL_law_401 hf (fun v48 hf => ?_)
        refine l_aload_n 402 C dL_law_402 rfl rfl ?_
        refine l_iload_n 403 C dL_law_403 rfl rfl ?_
        refine l_iconst (v := 2) 404 C dL_law_404 (by decide) ?_
        refine l_iadd 405 C dL_law_405 ?_
        refine l_sld 406 C dL_law_406 hf (fun v49 hf => ?_)
        refine l_aload_n 407 C dL_law_407 rfl rfl ?_
        refine l_iload_n 408 C dL_law_408 rfl rfl ?_
        refine l_iconst (v := 3) 409 C dL_law_409 (by decide) ?_
        refine l_iadd 410 C dL_law_410 ?_
        refine l_sld 411 C dL_law_411 hf (fun v50 hf => ?_)
        refine l_callX (st := []) 412 C [.int v48, .int v49, .int v50] lm_L_44 ly_X10_fits (bkX 0 _ rfl) (by decide) dL_law_412 rfl (by decide) rfl (Nat.le_of_ble_eq_true rfl) hcs (fun o1 h1 => m_X10_fits 0 bkX v48 v49 v50 σ o1 h1) hf (fun v51 s52 hf => ?_)
        refine l_pop 415 C dL_law_415 rfl ?_
        refine l_aload_n 416 C dL_law_416 rfl rfl ?_
        refine l_aload_n 417 C dL_law_417 rfl rfl ?_
        refine l_iload_n 418 C dL_law_418 rfl rfl ?_
        refine l_iconst (v := 1) 419 C dL_law_419 (by decide) ?_
        refine l_iadd 420 C dL_law_420 ?_
        refine l_sld 421 C dL_law_421 hf (fun v53 hf => ?_)
        refine l_aload_n 422 C dL_law_422 rfl rfl ?_
        refine l_iload_n 423 C dL_law_423 rfl rfl ?_
        refine l_iconst (v := 2) 424 C dL_law_424 (by decide) ?_
        refine l_iadd 425 C dL_law_425 ?_
        refine l_sld 426 C dL_law_426 hf (fun v54 hf => ?_)
        refine l_aload_n 427 C dL_law_427 rfl rfl ?_
        refine l_iload_n 428 C dL_law_428 rfl rfl ?_
        refine l_iconst (v := 3) 429 C dL_law_429 (by decide) ?_
        refine l_iadd 430 C dL_law_430 ?_
        refine l_sld 431 C dL_law_431 hf (fun v55 hf => ?_)
        refine l_callM (st := []) 432 C [.int v53, .int v54, .int v55] lm_L_47 ly_X11_fits (bkM 0 _ rfl) (by decide) dL_law_432 rfl (by decide) rfl (Nat.le_of_ble_eq_true rfl) hcs (fun o1 h1 => m_X11_fits 103 bkM v53 v54 v55 τ o1 h1) hf (fun v56 s57 hf => ?_)
        refine l_pop 435 C dL_law_435 rfl ?_
        refine l_goto (tgt := 1113) 436 C dL_law_436 (by decide) ?_
        exact Lx.lv [0, 1, 2, 3] rfl (k_L_law_b1113 C hcs hend (f_L_law_b18 xs Ln n) ih x3 s52 s57 hf)
      refine l_case (v := 7) hf (fun hx hf => ?_) (fun hn7 hf => ?_)
      · refine l_tabIn (tgt := 439) 32 C hx dL_law_32 (by decide) rfl (by decide) ?_
        refine l_aload_n 439 C dL_law_439 rfl rfl ?_
        refine l_aload_n 440 C dL_law_440 rfl rfl ?_
        refine l_iload_n 441 C dL_law_441 rfl rfl ?_
        refine l_iconst (v := 1) 442 C dL_law_442 (by decide) ?_
        refine l_iadd 443 C dL_law_443 ?_
        refine l_sld 444 C dL_law_444 hf (fun v58 hf => ?_)
        refine l_aload_n 445 C dL_law_445 rfl rfl ?_
        refine l_iload_n 446 C dL_law_446 rfl rfl ?_
        refine l_iconst (v := 2) 447 C dL_law_447 (by decide) ?_
        refine l_iadd 448 C dL_law_448 ?_
        refine l_sld 449 C dL_law_449 hf (fun v59 hf => ?_)
        refine l_aload_n 450 C dL_law_450 rfl rfl ?_
        refine l_iload_n 451 C dL_law_451 rfl rfl ?_
        refine l_iconst (v := 3) 452 C dL_law_452 (by decide) ?_
        refine l_iadd 453 C dL_law_453 ?_
        refine l_sld 454 C dL_law_454 hf (fun v60 hf => ?_)
        refine l_aload_n 455 C dL_law_455 rfl rfl ?_
        refine l_iload_n 456 C dL_law_456 rfl rfl ?_
        refine l_iconst (v := 4) 457 C dL_law_457 (by decide) ?_
        refine l_iadd 458 C dL_law_458 ?_
        refine l_sld 459 C dL_law_459 hf (fun v61 hf => ?_)
        refine l_callX (st := []) 460 C [.int v58, .int v59, .int v60, .int v61] lm_L_48 ly_X10_seconds (bkX 0 _ rfl) (by decide) dL_law_460 rfl (by decide) rfl (Nat.le_of_ble_eq_true rfl) hcs (fun o1 h1 => m_X10_seconds 0 bkX v58 v59 v60 v61 σ o1 h1) hf (fun v62 s63 hf => ?_)
        refine l_pop 463 C dL_law_463 rfl ?_
        refine l_aload_n 464 C dL_law_464 rfl rfl ?_
        refine l_aload_n 465 C dL_law_465 rfl rfl ?_
        refine l_iload_n 466 C dL_law_466 rfl rfl ?_
        refine l_iconst (v := 1) 467 C dL_law_467 (by decide) ?_
        refine l_iadd 468 C dL_law_468 ?_
        refine l_sld 469 C dL_law_469 hf (fun v64 hf => ?_)
        refine l_aload_n 470 C dL_law_470 rfl rfl ?_
        refine l_iload_n 471 C dL_law_471 rfl rfl ?_
        refine l_iconst (v := 2) 472 C dL_law_472 (by decide) ?_
        refine l_iadd 473 C dL_law_473 ?_
        refine l_sld 474 C dL_law_474 hf (fun v65 hf => ?_)
        refine l_aload_n 475 C dL_law_475 rfl rfl ?_
        refine l_iload_n 476 C dL_law_476 rfl rfl ?_
        refine l_iconst (v := 3) 477 C dL_law_477 (by decide) ?_
        refine l_iadd 478 C dL_law_478 ?_
        refine l_sld 479 C dL_law_479 hf (fun v66 hf => ?_)
        refine l_aload_n 480 C dL_law_480 rfl rfl ?_
        refine l_iload_n 481 C dL_law_481 rfl rfl ?_
        refine l_iconst (v := 4) 482 C dL_law_482 (by decide) ?_
        refine l_iadd 483 C dL_law_483 ?_
        refine l_sld 484 C dL_law_484 hf (fun v67 hf => ?_)
        refine l_callM (st := []) 485 C [.int v64, .int v65, .int v66, .int v67] lm_L_52 ly_X11_seconds (bkM 0 _ rfl) (by decide) dL_law_485 rfl (by decide) rfl (Nat.le_of_ble_eq_true rfl) hcs (fun o1 h1 => m_X11_seconds 103 bkM v64 v65 v66 v67 τ o1 h1) hf (fun v68 s69 hf => ?_)
        refine l_pop 488 C dL_law_488 rfl ?_
        refine l_goto (tgt := 1113) 489 C dL_law_489 (by decide) ?_
        exact Lx.lv [0, 1, 2, 3] rfl (k_L_law_b1113 C hcs hend (f_L_law_b18 xs Ln n) ih x3 s63 s69 hf)
      refine l_case (v := 8) hf (fun hx hf => ?_) (fun hn8 hf => ?_)
      · refine l_tabIn (tgt := 492) 32 C hx dL_law_32 (by decide) rfl (by decide) ?_
        refine l_aload_n 492 C dL_law_492 rfl rfl ?_
        refine l_aload_n 493 C dL_law_493 rfl rfl ?_
        refine l_iload_n 494 C dL_law_494 rfl rfl ?_
        refine l_iconst (v := 1) 495 C dL_law_495 (by decide) ?_
        refine l_iadd 496 C dL_law_496 ?_
        refine l_sld 497 C dL_law_497 hf (fun v70 hf => ?_)
        refine l_aload_n 498 C dL_law_498 rfl rfl ?_
        refine l_iload_n 499 C dL_law_499 rfl rfl ?_
        refine l_iconst (v := 2) 500 C dL_law_500 (by decide) ?_
        refine l_iadd 501 C dL_law_501 ?_
        refine l_sld 502 C dL_law_502 hf (fun v71 hf => ?_)
        refine l_aload_n 503 C dL_law_503 rfl rfl ?_
        refine l_iload_n 504 C dL_law_504 rfl rfl ?_
        refine l_iconst (v := 3) 505 C dL_law_505 (by decide) ?_
        refine l_iadd 506 C dL_law_506 ?_
        refine l_sld 507 C dL_law_507 hf (fun v72 hf => ?_)
        refine l_aload_n 508 C dL_law_508 rfl rfl ?_
        refine l_iload_n 509 C dL_law_509 rfl rfl ?_
        refine l_iconst (v := 4) 510 C dL_law_510 (by decide) ?_
        refine l_iadd 511 C dL_law_511 ?_
        refine l_sld 512 C dL_law_512 hf (fun v73 hf => ?_)
        refine l_callX (st := []) 513 C [.int v70, .int v71, .int v72, .int v73] lm_L_53 ly_X10_tryIt (bkX 0 _ rfl) (by decide) dL_law_513 rfl (by decide) rfl (Nat.le_of_ble_eq_true rfl) hcs (fun o1 h1 => m_X10_tryIt 0 bkX v70 v71 v72 v73 σ o1 h1) hf (fun v74 s75 hf => ?_)
        refine l_pop 516 C dL_law_516 rfl ?_
        refine l_aload_n 517 C dL_law_517 rfl rfl ?_
        refine l_aload_n 518 C dL_law_518 rfl rfl ?_
        refine l_iload_n 519 C dL_law_519 rfl rfl ?_
        refine l_iconst (v := 1) 520 C dL_law_520 (by decide) ?_
        refine l_iadd 521 C dL_law_521 ?_
        refine l_sld 522 C dL_law_522 hf (fun v76 hf => ?_)
        refine l_aload_n 523 C dL_law_523 rfl rfl ?_
        refine l_iload_n 524 C dL_law_524 rfl rfl ?_
        refine l_iconst (v := 2) 525 C dL_law_525 (by decide) ?_
        refine l_iadd 526 C dL_law_526 ?_
        refine l_sld 527 C dL_law_527 hf (fun v77 hf => ?_)
        refine l_aload_n 528 C dL_law_528 rfl rfl ?_
        refine l_iload_n 529 C dL_law_529 rfl rfl ?_
        refine l_iconst (v := 3) 530 C dL_law_530 (by decide) ?_
        refine l_iadd 531 C dL_law_531 ?_
        refine l_sld 532 C dL_law_532 hf (fun v78 hf => ?_)
        refine l_aload_n 533 C dL_law_533 rfl rfl ?_
        refine l_iload_n 534 C dL_law_534 rfl rfl ?_
        refine l_iconst (v := 4) 535 C dL_law_535 (by decide) ?_
        refine l_iadd 536 C dL_law_536 ?_
        refine l_sld 537 C dL_law_537 hf (fun v79 hf => ?_)
        refine l_callM (st := []) 538 C [.int v76, .int v77, .int v78, .int v79] lm_L_56 ly_X11_tryIt (bkM 0 _ rfl) (by decide) dL_law_538 rfl (by decide) rfl (Nat.le_of_ble_eq_true rfl) hcs (fun o1 h1 => m_X11_tryIt 103 bkM v76 v77 v78 v79 τ o1 h1) hf (fun v80 s81 hf => ?_)
        refine l_pop 541 C dL_law_541 rfl ?_
        refine l_goto (tgt := 1113) 542 C dL_law_542 (by decide) ?_
        exact Lx.lv [0, 1, 2, 3] rfl (k_L_law_b1113 C hcs hend (f_L_law_b18 xs Ln n) ih x3 s75 s81 hf)
      refine l_case (v := 9) hf (fun hx hf => ?_) (fun hn9 hf => ?_)
      · refine l_tabIn (tgt := 545) 32 C hx dL_law_32 (by decide) rfl (by decide) ?_
        refine l_aload_n 545 C dL_law_545 rfl rfl ?_
        refine l_aload_n 546 C dL_law_546 rfl rfl ?_
        refine l_iload_n 547 C dL_law_547 rfl rfl ?_
        refine l_iconst (v := 1) 548 C dL_law_548 (by decide) ?_
        refine l_iadd 549 C dL_law_549 ?_
        refine l_sld 550 C dL_law_550 hf (fun v82 hf => ?_)
        refine l_callX (st := []) 551 C [.int v82] lm_L_57 ly_X10_lift (bkX 0 _ rfl) (by decide) dL_law_551 rfl (by decide) rfl (Nat.le_of_ble_eq_true rfl) hcs (fun o1 h1 => m_X10_lift 0 bkX v82 σ o1 h1) hf (fun v83 s84 hf => ?_)
        refine l_pop 554 C dL_law_554 rfl ?_
        refine l_aload_n 555 C dL_law_555 rfl rfl ?_
        refine l_aload_n 556 C dL_law_556 rfl rfl ?_
        refine l_iload_n 557 C dL_law_557 rfl rfl ?_
        refine l_iconst (v := 1) 558 C dL_law_558 (by decide) ?_
        refine l_iadd 559 C dL_law_559 ?_
        refine l_sld 560 C dL_law_560 hf (fun v85 hf => ?_)
        refine l_callM (st := []) 561 C [.int v85] lm_L_60 ly_X11_lift (bkM 0 _ rfl) (by decide) dL_law_561 rfl (by decide) rfl (Nat.le_of_ble_eq_true rfl) hcs (fun o1 h1 => m_X11_lift 103 bkM v85 τ o1 h1) hf (fun v86 s87 hf => ?_)
        refine l_pop 564 C dL_law_564 rfl ?_
        refine l_goto (tgt := 1113) 565 C dL_law_565 (by decide) ?_
        exact Lx.lv [0, 1, 2, 3] rfl (k_L_law_b1113 C hcs hend (f_L_law_b18 xs Ln n) ih x3 s84 s87 hf)
      refine l_case (v := 10) hf (fun hx hf => ?_) (fun hn10 hf => ?_)
      · refine l_tabIn (tgt := 568) 32 C hx dL_law_32 (by decide) rfl (by decide) ?_
        refine l_aload_n 568 C dL_law_568 rfl rfl ?_
        refine l_aload_n 569 C dL_law_569 rfl rfl ?_
        refine l_iload_n 570 C dL_law_570 rfl rfl ?_
        refine l_iconst (v := 1) 571 C dL_law_571 (by decide) ?_
        refine l_iadd 572 C dL_law_572 ?_
        refine l_sld 573 C dL_law_573 hf (fun v88 hf => ?_)
        refine l_callX (st := []) 574 C [.int v88] lm_L_61 ly_X10_pocket (bkX 0 _ rfl) (by decide) dL_law_574 rfl (by decide) rfl (Nat.le_of_ble_eq_true rfl) hcs (fun o1 h1 => m_X10_pocket 0 bkX v88 σ o1 h1) hf (fun v89 s90 hf => ?_)
        refine l_pop 577 C dL_law_577 rfl ?_
        refine l_aload_n 578 C dL_law_578 rfl rfl ?_
        refine l_aload_n 579 C dL_law_579 rfl rfl ?_
        refine l_iload_n 580 C dL_law_580 rfl rfl ?_
        refine l_iconst (v := 1) 581 C dL_law_581 (by decide) ?_
        refine l_iadd 582 C dL_law_582 ?_
        refine l_sld 583 C dL_law_583 hf (fun v91 hf => ?_)
        refine l_callM (st := []) 584 C [.int v91] lm_L_64 ly_X11_pocket (bkM 0 _ rfl) (by decide) dL_law_584 rfl (by decide) rfl (Nat.le_of_ble_eq_true rfl) hcs (fun o1 h1 => m_X11_pocket 103 bkM v91 τ o1 h1) hf (fun v92 s93 hf => ?_)
        refine l_pop 587 C dL_law_587 rfl ?_
        refine l_goto (tgt := 1113) 588 C dL_law_588 (by decide) ?_
        exact Lx.lv [0, 1, 2, 3] rfl (k_L_law_b1113 C hcs hend (f_L_law_b18 xs Ln n) ih x3 s90 s93 hf)
      refine l_case (v := 11) hf (fun hx hf => ?_) (fun hn11 hf => ?_)
      · refine l_tabIn (tgt := 591) 32 C hx dL_law_32 (by decide) rfl (by decide) ?_
        refine l_aload_n 591 C dL_law_591 rfl rfl ?_
        refine l_aload_n 592 C dL_law_592 rfl rfl ?_
        refine l_iload_n 593 C dL_law_593 rfl rfl ?_
        refine l_iconst (v := 1) 594 C dL_law_594 (by decide) ?_
        refine l_iadd 595 C dL_law_595 ?_
        refine l_sld 596 C dL_law_596 hf (fun v94 hf => ?_)
        refine l_callX (st := []) 597 C [.int v94] lm_L_65 ly_X10_find (bkX 0 _ rfl) (by decide) dL_law_597 rfl (by decide) rfl (Nat.le_of_ble_eq_true rfl) hcs (fun o1 h1 => m_X10_find 0 bkX v94 σ o1 h1) hf (fun v95 s96 hf => ?_)
        refine l_pop 600 C dL_law_600 rfl ?_
        refine l_aload_n 601 C dL_law_601 rfl rfl ?_
        refine l_aload_n 602 C dL_law_602 rfl rfl ?_
        refine l_iload_n 603 C dL_law_603 rfl rfl ?_
        refine l_iconst (v := 1) 604 C dL_law_604 (by decide) ?_
        refine l_iadd 605 C dL_law_605 ?_
        refine l_sld 606 C dL_law_606 hf (fun v97 hf => ?_)
        refine l_callM (st := []) 607 C [.int v97] lm_L_68 ly_X11_find (bkM 0 _ rfl) (by decide) dL_law_607 rfl (by decide) rfl (Nat.le_of_ble_eq_true rfl) hcs (fun o1 h1 => m_X11_find 103 bkM v97 τ o1 h1) hf (fun v98 s99 hf => ?_)
        refine l_pop 610 C dL_law_610 rfl ?_
        refine l_goto (tgt := 1113) 611 C dL_law_611 (by decide) ?_
        exact Lx.lv [0, 1, 2, 3] rfl (k_L_law_b1113 C hcs hend (f_L_law_b18 xs Ln n) ih x3 s96 s99 hf)
      refine l_case (v := 12) hf (fun hx hf => ?_) (fun hn12 hf => ?_)
      · refine l_tabIn (tgt := 614) 32 C hx dL_law_32 (by decide) rfl (by decide) ?_
        refine l_aload_n 614 C dL_law_614 rfl rfl ?_
        refine l_aload_n 615 C dL_law_615 rfl rfl ?_
        refine l_iload_n 616 C dL_law_616 rfl rfl ?_
        refine l_iconst (v := 1) 617 C dL_law_617 (by decide) ?_
        refine l_iadd 618 C dL_law_618 ?_
        refine l_sld 619 C dL_law_619 hf (fun v100 hf => ?_)
        refine l_callX (st := []) 620 C [.int v100] lm_L_69 ly_X10_ways (bkX 0 _ rfl) (by decide) dL_law_620 rfl (by decide) rfl (Nat.le_of_ble_eq_true rfl) hcs (fun o1 h1 => m_X10_ways 0 bkX v100 σ o1 h1) hf (fun v101 s102 hf => ?_)
        refine l_pop 623 C dL_law_623 rfl ?_
        refine l_aload_n 624 C dL_law_624 rfl rfl ?_
        refine l_aload_n 625 C dL_law_625 rfl rfl ?_
        refine l_iload_n 626 C dL_law_626 rfl rfl ?_
        refine l_iconst (v := 1) 627 C dL_law_627 (by decide) ?_
        refine l_iadd 628 C dL_law_628 ?_
        refine l_sld 629 C dL_law_629 hf (fun v103 hf => ?_)
        refine l_callM (st := []) 630 C [.int v103] lm_L_72 ly_X11_ways (bkM 0 _ rfl) (by decide) dL_law_630 rfl (by decide) rfl (Nat.le_of_ble_eq_true rfl) hcs (fun o1 h1 => m_X11_ways 103 bkM v103 τ o1 h1) hf (fun v104 s105 hf => ?_)
        refine l_pop 633 C dL_law_633 rfl ?_
        refine l_goto (tgt := 1113) 634 C dL_law_634 (by decide) ?_
        exact Lx.lv [0, 1, 2, 3] rfl (k_L_law_b1113 C hcs hend (f_L_law_b18 xs Ln n) ih x3 s102 s105 hf)
      refine l_case (v := 13) hf (fun hx hf => ?_) (fun hn13 hf => ?_)
      · refine l_tabIn (tgt := 637) 32 C hx dL_law_32 (by decide) rfl (by decide) ?_
        refine l_aload_n 637 C dL_law_637 rfl rfl ?_
        refine l_aload_n 638 C dL_law_638 rfl rfl ?_
        refine l_iload_n 639 C dL_law_639 rfl rfl ?_
        refine l_iconst (v := 1) 640 C dL_law_640 (by decide) ?_
        refine l_iadd 641 C dL_law_641 ?_
        refine l_sld 642 C dL_law_642 hf (fun v106 hf => ?_)
        refine l_aload_n 643 C dL_law_643 rfl rfl ?_
        refine l_iload_n 644 C dL_law_644 rfl rfl ?_
        refine l_iconst (v := 2) 645 C dL_law_645 (by decide) ?_
        refine l_iadd 646 C dL_law_646 ?_
        refine l_sld 647 C dL_law_647 hf (fun v107 hf => ?_)
        refine l_callX (st := []) 648 C [.int v106, .int v107] lm_L_73 ly_X10_first (bkX 0 _ rfl) (by decide) dL_law_648 rfl (by decide) rfl (Nat.le_of_ble_eq_true rfl) hcs (fun o1 h1 => m_X10_first 0 bkX v106 v107 σ o1 h1) hf (fun v108 s109 hf => ?_)
        refine l_pop 651 C dL_law_651 rfl ?_
        refine l_aload_n 652 C dL_law_652 rfl rfl ?_
        refine l_aload_n 653 C dL_law_653 rfl rfl ?_
        refine l_iload_n 654 C dL_law_654 rfl rfl ?_
        refine l_iconst (v := 1) 655 C dL_law_655 (by decide) ?_
        refine l_iadd 656 C dL_law_656 ?_
        refine l_sld 657 C dL_law_657 hf (fun v110 hf => ?_)
        refine l_aload_n 658 C dL_law_658 rfl rfl ?_
        refine l_iload_n 659 C dL_law_659 rfl rfl ?_
        refine l_iconst (v := 2) 660 C dL_law_660 (by decide) ?_
        refine l_iadd 661 C dL_law_661 ?_
        refine l_sld 662 C dL_law_662 hf (fun v111 hf => ?_)
        refine l_callM (st := []) 663 C [.int v110, .int v111] lm_L_76 ly_X11_first (bkM 0 _ rfl) (by decide) dL_law_663 rfl (by decide) rfl (Nat.le_of_ble_eq_true rfl) hcs (fun o1 h1 => m_X11_first 103 bkM v110 v111 τ o1 h1) hf (fun v112 s113 hf => ?_)
        refine l_pop 666 C dL_law_666 rfl ?_
        refine l_goto (tgt := 1113) 667 C dL_law_667 (by decide) ?_
        exact Lx.lv [0, 1, 2, 3] rfl (k_L_law_b1113 C hcs hend (f_L_law_b18 xs Ln n) ih x3 s109 s113 hf)
      refine l_case (v := 14) hf (fun hx hf => ?_) (fun hn14 hf => ?_)
      · refine l_tabIn (tgt := 670) 32 C hx dL_law_32 (by decide) rfl (by decide) ?_
        refine l_aload_n 670 C dL_law_670 rfl rfl ?_
        refine l_aload_n 671 C dL_law_671 rfl rfl ?_
        refine l_iload_n 672 C dL_law_672 rfl rfl ?_
        refine l_iconst (v := 1) 673 C dL_law_673 (by decide) ?_
        refine l_iadd 674 C dL_law_674 ?_
        refine l_sld 675 C dL_law_675 hf (fun v114 hf => ?_)
        refine l_aload_n 676 C dL_law_676 rfl rfl ?_
        refine l_iload_n 677 C dL_law_677 rfl rfl ?_
        refine l_iconst (v := 2) 678 C dL_law_678 (by decide) ?_
        refine l_iadd 679 C dL_law_679 ?_
        refine l_sld 680 C dL_law_680 hf (fun v115 hf => ?_)
        refine l_callX (st := []) 681 C [.int v114, .int v115] lm_L_77 ly_X10_done (bkX 0 _ rfl) (by decide) dL_law_681 rfl (by decide) rfl (Nat.le_of_ble_eq_true rfl) hcs (fun o1 h1 => m_X10_done 0 bkX v114 v115 σ o1 h1) hf (fun v116 s117 hf => ?_)
        refine l_pop 684 C dL_law_684 rfl ?_
        refine l_aload_n 685 C dL_law_685 rfl rfl ?_
        refine l_aload_n 686 C dL_law_686 rfl rfl ?_
        refine l_iload_n 687 C dL_law_687 rfl rfl ?_
        refine l_iconst (v := 1) 688 C dL_law_688 (by decide) ?_
        refine l_iadd 689 C dL_law_689 ?_
        refine l_sld 690 C dL_law_690 hf (fun v118 hf => ?_)
        refine l_aload_n 691 C dL_law_691 rfl rfl ?_
        refine l_iload_n 692 C dL_law_692 rfl rfl ?_
        refine l_iconst (v := 2) 693 C dL_law_693 (by decide) ?_
        refine l_iadd 694 C dL_law_694 ?_
        refine l_sld 695 C dL_law_695 hf (fun v119 hf => ?_)
        refine l_callM (st := []) 696 C [.int v118, .int v119] lm_L_80 ly_X11_done (bkM 0 _ rfl) (by decide) dL_law_696 rfl (by decide) rfl (Nat.le_of_ble_eq_true rfl) hcs (fun o1 h1 => m_X11_done 103 bkM v118 v119 τ o1 h1) hf (fun v120 s121 hf => ?_)
        refine l_pop 699 C dL_law_699 rfl ?_
        refine l_goto (tgt := 1113) 700 C dL_law_700 (by decide) ?_
        exact Lx.lv [0, 1, 2, 3] rfl (k_L_law_b1113 C hcs hend (f_L_law_b18 xs Ln n) ih x3 s117 s121 hf)
      refine l_case (v := 15) hf (fun hx hf => ?_) (fun hn15 hf => ?_)
      · refine l_tabIn (tgt := 703) 32 C hx dL_law_32 (by decide) rfl (by decide) ?_
        refine l_aload_n 703 C dL_law_703 rfl rfl ?_
        refine l_aload_n 704 C dL_law_704 rfl rfl ?_
        refine l_iload_n 705 C dL_law_705 rfl rfl ?_
        refine l_iconst (v := 1) 706 C dL_law_706 (by decide) ?_
        refine l_iadd 707 C dL_law_707 ?_
        refine l_sld 708 C dL_law_708 hf (fun v122 hf => ?_)
        refine l_aload_n 709 C dL_law_709 rfl rfl ?_
        refine l_iload_n 710 C dL_law_710 rfl rfl ?_
        refine l_iconst (v := 2) 711 C dL_law_711 (by decide) ?_
        refine l_iadd 712 C dL_law_712 ?_
        refine l_sld 713 C dL_law_713 hf (fun v123 hf => ?_)
        refine l_callX (st := []) 714 C [.int v122, .int v123] lm_L_81 ly_X10_half (bkX 0 _ rfl) (by decide) dL_law_714 rfl (by decide) rfl (Nat.le_of_ble_eq_true rfl) hcs (fun o1 h1 => m_X10_half 0 bkX v122 v123 σ o1 h1) hf (fun v124 s125 hf => ?_)
        refine l_pop 717 C dL_law_717 rfl ?_
        refine l_aload_n 718 C dL_law_718 rfl rfl ?_
        refine l_aload_n 719 C dL_law_719 rfl rfl ?_
        refine l_iload_n 720 C dL_law_720 rfl rfl ?_
        refine l_iconst (v := 1) 721 C dL_law_721 (by decide) ?_
        refine l_iadd 722 C dL_law_722 ?_
        refine l_sld 723 C dL_law_723 hf (fun v126 hf => ?_)
        refine l_aload_n 724 C dL_law_724 rfl rfl ?_
        refine l_iload_n 725 C dL_law_725 rfl rfl ?_
        refine l_iconst (v := 2) 726 C dL_law_726 (by decide) ?_
        refine l_iadd 727 C dL_law_727 ?_
        refine l_sld 728 C dL_law_728 hf (fun v127 hf => ?_)
        refine l_callM (st := []) 729 C [.int v126, .int v127] lm_L_84 ly_X11_half (bkM 0 _ rfl) (by decide) dL_law_729 rfl (by decide) rfl (Nat.le_of_ble_eq_true rfl) hcs (fun o1 h1 => m_X11_half 103 bkM v126 v127 τ o1 h1) hf (fun v128 s129 hf => ?_)
        refine l_pop 732 C dL_law_732 rfl ?_
        refine l_goto (tgt := 1113) 733 C dL_law_733 (by decide) ?_
        exact Lx.lv [0, 1, 2, 3] rfl (k_L_law_b1113 C hcs hend (f_L_law_b18 xs Ln n) ih x3 s125 s129 hf)
      refine l_case (v := 16) hf (fun hx hf => ?_) (fun hn16 hf => ?_)
      · refine l_tabIn (tgt := 736) 32 C hx dL_law_32 (by decide) rfl (by decide) ?_
        refine l_aload_n 736 C dL_law_736 rfl rfl ?_
        refine l_aload_n 737 C dL_law_737 rfl rfl ?_
        refine l_iload_n 738 C dL_law_738 rfl rfl ?_
        refine l_iconst (v := 1) 739 C dL_law_739 (by decide) ?_
        refine l_iadd 740 C dL_law_740 ?_
        refine l_sld 741 C dL_law_741 hf (fun v130 hf => ?_)
        refine l_callX (st := []) 742 C [.int v130] lm_L_85 ly_X10_bestRule (bkX 0 _ rfl) (by decide) dL_law_742 rfl (by decide) rfl (Nat.le_of_ble_eq_true rfl) hcs (fun o1 h1 => m_X10_bestRule 0 bkX v130 σ o1 h1) hf (fun v131 s132 hf => ?_)
        refine l_pop 745 C dL_law_745 rfl ?_
        refine l_aload_n 746 C dL_law_746 rfl rfl ?_
        refine l_aload_n 747 C dL_law_747 rfl rfl ?_
        refine l_iload_n 748 C dL_law_748 rfl rfl ?_
        refine l_iconst (v := 1) 749 C dL_law_749 (by decide) ?_
        refine l_iadd 750 C dL_law_750 ?_
        refine l_sld 751 C dL_law_751 hf (fun v133 hf => ?_)
        refine l_callM (st := []) 752 C [.int v133] lm_L_88 ly_X11_bestRule (bkM 0 _ rfl) (by decide) dL_law_752 rfl (by decide) rfl (Nat.le_of_ble_eq_true rfl) hcs (fun o1 h1 => m_X11_bestRule 103 bkM v133 τ o1 h1) hf (fun v134 s135 hf => ?_)
        refine l_pop 755 C dL_law_755 rfl ?_
        refine l_goto (tgt := 1113) 756 C dL_law_756 (by decide) ?_
        exact Lx.lv [0, 1, 2, 3] rfl (k_L_law_b1113 C hcs hend (f_L_law_b18 xs Ln n) ih x3 s132 s135 hf)
      refine l_case (v := 17) hf (fun hx hf => ?_) (fun hn17 hf => ?_)
      · refine l_tabIn (tgt := 759) 32 C hx dL_law_32 (by decide) rfl (by decide) ?_
        refine l_aload_n 759 C dL_law_759 rfl rfl ?_
        refine l_aload_n 760 C dL_law_760 rfl rfl ?_
        refine l_iload_n 761 C dL_law_761 rfl rfl ?_
        refine l_iconst (v := 1) 762 C dL_law_762 (by decide) ?_
        refine l_iadd 763 C dL_law_763 ?_
        refine l_sld 764 C dL_law_764 hf (fun v136 hf => ?_)
        refine l_aload_n 765 C dL_law_765 rfl rfl ?_
        refine l_iload_n 766 C dL_law_766 rfl rfl ?_
        refine l_iconst (v := 2) 767 C dL_law_767 (by decide) ?_
        refine l_iadd 768 C dL_law_768 ?_
        refine l_sld 769 C dL_law_769 hf (fun v137 hf => ?_)
        refine l_callX (st := []) 770 C [.int v136, .int v137] lm_L_89 ly_X10_table (bkX 0 _ rfl) (by decide) dL_law_770 rfl (by decide) rfl (Nat.le_of_ble_eq_true rfl) hcs (fun o1 h1 => m_X10_table 0 bkX v136 v137 σ o1 h1) hf (fun v138 s139 hf => ?_)
        refine l_pop 773 C dL_law_773 rfl ?_
        refine l_aload_n 774 C dL_law_774 rfl rfl ?_
        refine l_aload_n 775 C dL_law_775 rfl rfl ?_
        refine l_iload_n 776 C dL_law_776 rfl rfl ?_
        refine l_iconst (v := 1) 777 C dL_law_777 (by decide) ?_
        refine l_iadd 778 C dL_law_778 ?_
        refine l_sld 779 C dL_law_779 hf (fun v140 hf => ?_)
        refine l_aload_n 780 C dL_law_780 rfl rfl ?_
        refine l_iload_n 781 C dL_law_781 rfl rfl ?_
        refine l_iconst (v := 2) 782 C dL_law_782 (by decide) ?_
        refine l_iadd 783 C dL_law_783 ?_
        refine l_sld 784 C dL_law_784 hf (fun v141 hf => ?_)
        refine l_callM (st := []) 785 C [.int v140, .int v141] lm_L_92 ly_X11_table (bkM 0 _ rfl) (by decide) dL_law_785 rfl (by decide) rfl (Nat.le_of_ble_eq_true rfl) hcs (fun o1 h1 => m_X11_table 103 bkM v140 v141 τ o1 h1) hf (fun v142 s143 hf => ?_)
        refine l_pop 788 C dL_law_788 rfl ?_
        refine l_goto (tgt := 1113) 789 C dL_law_789 (by decide) ?_
        exact Lx.lv [0, 1, 2, 3] rfl (k_L_law_b1113 C hcs hend (f_L_law_b18 xs Ln n) ih x3 s139 s143 hf)
      refine l_case (v := 18) hf (fun hx hf => ?_) (fun hn18 hf => ?_)
      · refine l_tabIn (tgt := 792) 32 C hx dL_law_32 (by decide) rfl (by decide) ?_
        refine l_aload_n 792 C dL_law_792 rfl rfl ?_
        refine l_aload_n 793 C dL_law_793 rfl rfl ?_
        refine l_iload_n 794 C dL_law_794 rfl rfl ?_
        refine l_iconst (v := 1) 795 C dL_law_795 (by decide) ?_
        refine l_iadd 796 C dL_law_796 ?_
        refine l_sld 797 C dL_law_797 hf (fun v144 hf => ?_)
        refine l_callX (st := []) 798 C [.int v144] lm_L_93 ly_X10_line (bkX 0 _ rfl) (by decide) dL_law_798 rfl (by decide) rfl (Nat.le_of_ble_eq_true rfl) hcs (fun o1 h1 => m_X10_line 0 bkX v144 σ o1 h1) hf (fun v145 s146 hf => ?_)
        refine l_pop 801 C dL_law_801 rfl ?_
        refine l_aload_n 802 C dL_law_802 rfl rfl ?_
        refine l_aload_n 803 C dL_law_803 rfl rfl ?_
        refine l_iload_n 804 C dL_law_804 rfl rfl ?_
        refine l_iconst (v := 1) 805 C dL_law_805 (by decide) ?_
        refine l_iadd 806 C dL_law_806 ?_
        refine l_sld 807 C dL_law_807 hf (fun v147 hf => ?_)
        refine l_callM (st := []) 808 C [.int v147] lm_L_96 ly_X11_line (bkM 0 _ rfl) (by decide) dL_law_808 rfl (by decide) rfl (Nat.le_of_ble_eq_true rfl) hcs (fun o1 h1 => m_X11_line 103 bkM v147 τ o1 h1) hf (fun v148 s149 hf => ?_)
        refine l_pop 811 C dL_law_811 rfl ?_
        refine l_goto (tgt := 1113) 812 C dL_law_812 (by decide) ?_
        exact Lx.lv [0, 1, 2, 3] rfl (k_L_law_b1113 C hcs hend (f_L_law_b18 xs Ln n) ih x3 s146 s149 hf)
      refine l_case (v := 19) hf (fun hx hf => ?_) (fun hn19 hf => ?_)
      · refine l_tabIn (tgt := 815) 32 C hx dL_law_32 (by decide) rfl (by decide) ?_
        refine l_aload_n 815 C dL_law_815 rfl rfl ?_
        refine l_callX (st := []) 816 C [] lm_L_97 ly_X10_seems (bkX 0 _ rfl) (by decide) dL_law_816 rfl (by decide) rfl (Nat.le_of_ble_eq_true rfl) hcs (fun o1 h1 => m_X10_seems 0 bkX  σ o1 h1) hf (fun v150 s151 hf => ?_)
        refine l_pop 819 C dL_law_819 rfl ?_
        refine l_aload_n 820 C dL_law_820 rfl rfl ?_
        refine l_callM (st := []) 821 C [] lm_L_100 ly_X11_seems (bkM 0 _ rfl) (by decide) dL_law_821 rfl (by decide) rfl (Nat.le_of_ble_eq_true rfl) hcs (fun o1 h1 => m_X11_seems 103 bkM  τ o1 h1) hf (fun v152 s153 hf => ?_)
        refine l_pop 824 C dL_law_824 rfl ?_
        refine l_goto (tgt := 1113) 825 C dL_law_825 (by decide) ?_
        exact Lx.lv [0, 1, 2, 3] rfl (k_L_law_b1113 C hcs hend (f_L_law_b18 xs Ln n) ih x3 s151 s153 hf)
      refine l_case (v := 20) hf (fun hx hf => ?_) (fun hn20 hf => ?_)
      · refine l_tabIn (tgt := 828) 32 C hx dL_law_32 (by decide) rfl (by decide) ?_
        refine l_aload_n 828 C dL_law_828 rfl rfl ?_
        refine l_callX (st := []) 829 C [] lm_L_101 ly_X10_wrong (bkX 0 _ rfl) (by decide) dL_law_829 rfl (by decide) rfl (Nat.le_of_ble_eq_true rfl) hcs (fun o1 h1 => m_X10_wrong 0 bkX  σ o1 h1) hf (fun v154 s155 hf => ?_)
        refine l_pop 832 C dL_law_832 rfl ?_
        refine l_aload_n 833 C dL_law_833 rfl rfl ?_
        refine l_callM (st := []) 834 C [] lm_L_104 ly_X11_wrong (bkM 0 _ rfl) (by decide) dL_law_834 rfl (by decide) rfl (Nat.le_of_ble_eq_true rfl) hcs (fun o1 h1 => m_X11_wrong 103 bkM  τ o1 h1) hf (fun v156 s157 hf => ?_)
        refine l_pop 837 C dL_law_837 rfl ?_
        refine l_goto (tgt := 1113) 838 C dL_law_838 (by decide) ?_
        exact Lx.lv [0, 1, 2, 3] rfl (k_L_law_b1113 C hcs hend (f_L_law_b18 xs Ln n) ih x3 s155 s157 hf)
      refine l_case (v := 21) hf (fun hx hf => ?_) (fun hn21 hf => ?_)
      · refine l_tabIn (tgt := 841) 32 C hx dL_law_32 (by decide) rfl (by decide) ?_
        refine l_aload_n 841 C dL_law_841 rfl rfl ?_
        refine l_callX (st := []) 842 C [] lm_L_105 ly_X10_falseOne (bkX 0 _ rfl) (by decide) dL_law_842 rfl (by decide) rfl (Nat.le_of_ble_eq_true rfl) hcs (fun o1 h1 => m_X10_falseOne 0 bkX  σ o1 h1) hf (fun v158 s159 hf => ?_)
        refine l_pop 845 C dL_law_845 rfl ?_
        refine l_aload_n 846 C dL_law_846 rfl rfl ?_
        refine l_callM (st := []) 847 C [] lm_L_108 ly_X11_falseOne (bkM 0 _ rfl) (by decide) dL_law_847 rfl (by decide) rfl (Nat.le_of_ble_eq_true rfl) hcs (fun o1 h1 => m_X11_falseOne 103 bkM  τ o1 h1) hf (fun v160 s161 hf => ?_)
        refine l_pop 850 C dL_law_850 rfl ?_
        refine l_goto (tgt := 1113) 851 C dL_law_851 (by decide) ?_
        exact Lx.lv [0, 1, 2, 3] rfl (k_L_law_b1113 C hcs hend (f_L_law_b18 xs Ln n) ih x3 s159 s161 hf)
      refine l_case (v := 22) hf (fun hx hf => ?_) (fun hn22 hf => ?_)
      · refine l_tabIn (tgt := 854) 32 C hx dL_law_32 (by decide) rfl (by decide) ?_
        refine l_aload_n 854 C dL_law_854 rfl rfl ?_
        refine l_callX (st := []) 855 C [] lm_L_109 ly_X10_over (bkX 0 _ rfl) (by decide) dL_law_855 rfl (by decide) rfl (Nat.le_of_ble_eq_true rfl) hcs (fun o1 h1 => m_X10_over 0 bkX  σ o1 h1) hf (fun v162 s163 hf => ?_)
        refine l_pop 858 C dL_law_858 rfl ?_
        refine l_aload_n 859 C dL_law_859 rfl rfl ?_
        refine l_callM (st := []) 860 C [] lm_L_112 ly_X11_over (bkM 0 _ rfl) (by decide) dL_law_860 rfl (by decide) rfl (Nat.le_of_ble_eq_true rfl) hcs (fun o1 h1 => m_X11_over 103 bkM  τ o1 h1) hf (fun v164 s165 hf => ?_)
        refine l_pop 863 C dL_law_863 rfl ?_
        refine l_goto (tgt := 1113) 864 C dL_law_864 (by decide) ?_
        exact Lx.lv [0, 1, 2, 3] rfl (k_L_law_b1113 C hcs hend (f_L_law_b18 xs Ln n) ih x3 s163 s165 hf)
      refine l_case (v := 23) hf (fun hx hf => ?_) (fun hn23 hf => ?_)
      · refine l_tabIn (tgt := 867) 32 C hx dL_law_32 (by decide) rfl (by decide) ?_
        refine l_aload_n 867 C dL_law_867 rfl rfl ?_
        refine l_aload_n 868 C dL_law_868 rfl rfl ?_
        refine l_iload_n 869 C dL_law_869 rfl rfl ?_
        refine l_iconst (v := 1) 870 C dL_law_870 (by decide) ?_
        refine l_iadd 871 C dL_law_871 ?_
        refine l_sld 872 C dL_law_872 hf (fun v166 hf => ?_)
        refine l_callX (st := []) 873 C [.int v166] lm_L_113 ly_X10_balance (bkX 0 _ rfl) (by decide) dL_law_873 rfl (by decide) rfl (Nat.le_of_ble_eq_true rfl) hcs (fun o1 h1 => m_X10_balance 0 bkX v166 σ o1 h1) hf (fun v167 s168 hf => ?_)
        refine l_pop 876 C dL_law_876 rfl ?_
        refine l_aload_n 877 C dL_law_877 rfl rfl ?_
        refine l_aload_n 878 C dL_law_878 rfl rfl ?_
        refine l_iload_n 879 C dL_law_879 rfl rfl ?_
        refine l_iconst (v := 1) 880 C dL_law_880 (by decide) ?_
        refine l_iadd 881 C dL_law_881 ?_
        refine l_sld 882 C dL_law_882 hf (fun v169 hf => ?_)
        refine l_callM (st := []) 883 C [.int v169] lm_L_116 ly_X11_balance (bkM 0 _ rfl) (by decide) dL_law_883 rfl (by decide) rfl (Nat.le_of_ble_eq_true rfl) hcs (fun o1 h1 => m_X11_balance 103 bkM v169 τ o1 h1) hf (fun v170 s171 hf => ?_)
        refine l_pop 886 C dL_law_886 rfl ?_
        refine l_goto (tgt := 1113) 887 C dL_law_887 (by decide) ?_
        exact Lx.lv [0, 1, 2, 3] rfl (k_L_law_b1113 C hcs hend (f_L_law_b18 xs Ln n) ih x3 s168 s171 hf)
      refine l_case (v := 24) hf (fun hx hf => ?_) (fun hn24 hf => ?_)
      · refine l_tabIn (tgt := 890) 32 C hx dL_law_32 (by decide) rfl (by decide) ?_
        refine l_aload_n 890 C dL_law_890 rfl rfl ?_
        refine l_callX (st := []) 891 C [] lm_L_117 ly_X10_lacks (bkX 0 _ rfl) (by decide) dL_law_891 rfl (by decide) rfl (Nat.le_of_ble_eq_true rfl) hcs (fun o1 h1 => m_X10_lacks 0 bkX  σ o1 h1) hf (fun v172 s173 hf => ?_)
        refine l_pop 894 C dL_law_894 rfl ?_
        refine l_aload_n 895 C dL_law_895 rfl rfl ?_
        refine l_callM (st := []) 896 C [] lm_L_120 ly_X11_lacks (bkM 0 _ rfl) (by decide) dL_law_896 rfl (by decide) rfl (Nat.le_of_ble_eq_true rfl) hcs (fun o1 h1 => m_X11_lacks 103 bkM  τ o1 h1) hf (fun v174 s175 hf => ?_)
        refine l_pop 899 C dL_law_899 rfl ?_
        refine l_goto (tgt := 1113) 900 C dL_law_900 (by decide) ?_
        exact Lx.lv [0, 1, 2, 3] rfl (k_L_law_b1113 C hcs hend (f_L_law_b18 xs Ln n) ih x3 s173 s175 hf)
      refine l_case (v := 25) hf (fun hx hf => ?_) (fun hn25 hf => ?_)
      · refine l_tabIn (tgt := 903) 32 C hx dL_law_32 (by decide) rfl (by decide) ?_
        refine l_aload_n 903 C dL_law_903 rfl rfl ?_
        refine l_callX (st := []) 904 C [] lm_L_121 ly_X10_which (bkX 0 _ rfl) (by decide) dL_law_904 rfl (by decide) rfl (Nat.le_of_ble_eq_true rfl) hcs (fun o1 h1 => m_X10_which 0 bkX  σ o1 h1) hf (fun v176 s177 hf => ?_)
        refine l_pop 907 C dL_law_907 rfl ?_
        refine l_aload_n 908 C dL_law_908 rfl rfl ?_
        refine l_callM (st := []) 909 C [] lm_L_124 ly_X11_which (bkM 0 _ rfl) (by decide) dL_law_909 rfl (by decide) rfl (Nat.le_of_ble_eq_true rfl) hcs (fun o1 h1 => m_X11_which 103 bkM  τ o1 h1) hf (fun v178 s179 hf => ?_)
        refine l_pop 912 C dL_law_912 rfl ?_
        refine l_goto (tgt := 1113) 913 C dL_law_913 (by decide) ?_
        exact Lx.lv [0, 1, 2, 3] rfl (k_L_law_b1113 C hcs hend (f_L_law_b18 xs Ln n) ih x3 s177 s179 hf)
      refine l_case (v := 26) hf (fun hx hf => ?_) (fun hn26 hf => ?_)
      · refine l_tabIn (tgt := 916) 32 C hx dL_law_32 (by decide) rfl (by decide) ?_
        refine l_aload_n 916 C dL_law_916 rfl rfl ?_
        refine l_aload_n 917 C dL_law_917 rfl rfl ?_
        refine l_iload_n 918 C dL_law_918 rfl rfl ?_
        refine l_iconst (v := 1) 919 C dL_law_919 (by decide) ?_
        refine l_iadd 920 C dL_law_920 ?_
        refine l_sld 921 C dL_law_921 hf (fun v180 hf => ?_)
        refine l_aload_n 922 C dL_law_922 rfl rfl ?_
        refine l_iload_n 923 C dL_law_923 rfl rfl ?_
        refine l_iconst (v := 2) 924 C dL_law_924 (by decide) ?_
        refine l_iadd 925 C dL_law_925 ?_
        refine l_sld 926 C dL_law_926 hf (fun v181 hf => ?_)
        refine l_callX (st := []) 927 C [.int v180, .int v181] lm_L_125 ly_X10_mine (bkX 0 _ rfl) (by decide) dL_law_927 rfl (by decide) rfl (Nat.le_of_ble_eq_true rfl) hcs (fun o1 h1 => m_X10_mine 0 bkX v180 v181 σ o1 h1) hf (fun v182 s183 hf => ?_)
        refine l_pop 930 C dL_law_930 rfl ?_
        refine l_aload_n 931 C dL_law_931 rfl rfl ?_
        refine l_aload_n 932 C dL_law_932 rfl rfl ?_
        refine l_iload_n 933 C dL_law_933 rfl rfl ?_
        refine l_iconst (v := 1) 934 C dL_law_934 (by decide) ?_
        refine l_iadd 935 C dL_law_935 ?_
        refine l_sld 936 C dL_law_936 hf (fun v184 hf => ?_)
        refine l_aload_n 937 C dL_law_937 rfl rfl ?_
        refine l_iload_n 938 C dL_law_938 rfl rfl ?_
        refine l_iconst (v := 2) 939 C dL_law_939 (by decide) ?_
        refine l_iadd 940 C dL_law_940 ?_
        refine l_sld 941 C dL_law_941 hf (fun v185 hf => ?_)
        refine l_callM (st := []) 942 C [.int v184, .int v185] lm_L_128 ly_X11_mine (bkM 0 _ rfl) (by decide) dL_law_942 rfl (by decide) rfl (Nat.le_of_ble_eq_true rfl) hcs (fun o1 h1 => m_X11_mine 103 bkM v184 v185 τ o1 h1) hf (fun v186 s187 hf => ?_)
        refine l_pop 945 C dL_law_945 rfl ?_
        refine l_goto (tgt := 1113) 946 C dL_law_946 (by decide) ?_
        exact Lx.lv [0, 1, 2, 3] rfl (k_L_law_b1113 C hcs hend (f_L_law_b18 xs Ln n) ih x3 s183 s187 hf)
      refine l_case (v := 27) hf (fun hx hf => ?_) (fun hn27 hf => ?_)
      · refine l_tabIn (tgt := 949) 32 C hx dL_law_32 (by decide) rfl (by decide) ?_
        refine l_aload_n 949 C dL_law_949 rfl rfl ?_
        refine l_callX (st := []) 950 C [] lm_L_129 ly_X10_hardest (bkX 0 _ rfl) (by decide) dL_law_950 rfl (by decide) rfl (Nat.le_of_ble_eq_true rfl) hcs (fun o1 h1 => m_X10_hardest 0 bkX  σ o1 h1) hf (fun v188 s189 hf => ?_)
        refine l_pop 953 C dL_law_953 rfl ?_
        refine l_aload_n 954 C dL_law_954 rfl rfl ?_
        refine l_callM (st := []) 955 C [] lm_L_132 ly_X11_hardest (bkM 0 _ rfl) (by decide) dL_law_955 rfl (by decide) rfl (Nat.le_of_ble_eq_true rfl) hcs (fun o1 h1 => m_X11_hardest 103 bkM  τ o1 h1) hf (fun v190 s191 hf => ?_)
        refine l_pop 958 C dL_law_958 rfl ?_
        refine l_goto (tgt := 1113) 959 C dL_law_959 (by decide) ?_
        exact Lx.lv [0, 1, 2, 3] rfl (k_L_law_b1113 C hcs hend (f_L_law_b18 xs Ln n) ih x3 s189 s191 hf)
      refine l_case (v := 28) hf (fun hx hf => ?_) (fun hn28 hf => ?_)
      · refine l_tabIn (tgt := 962) 32 C hx dL_law_32 (by decide) rfl (by decide) ?_
        refine l_aload_n 962 C dL_law_962 rfl rfl ?_
        refine l_aload_n 963 C dL_law_963 rfl rfl ?_
        refine l_iload_n 964 C dL_law_964 rfl rfl ?_
        refine l_iconst (v := 1) 965 C dL_law_965 (by decide) ?_
        refine l_iadd 966 C dL_law_966 ?_
        refine l_sld 967 C dL_law_967 hf (fun v192 hf => ?_)
        refine l_aload_n 968 C dL_law_968 rfl rfl ?_
        refine l_iload_n 969 C dL_law_969 rfl rfl ?_
        refine l_iconst (v := 2) 970 C dL_law_970 (by decide) ?_
        refine l_iadd 971 C dL_law_971 ?_
        refine l_sld 972 C dL_law_972 hf (fun v193 hf => ?_)
        refine l_callX (st := []) 973 C [.int v192, .int v193] lm_L_133 ly_X10_keeper (bkX 0 _ rfl) (by decide) dL_law_973 rfl (by decide) rfl (Nat.le_of_ble_eq_true rfl) hcs (fun o1 h1 => m_X10_keeper 0 bkX v192 v193 σ o1 h1) hf (fun v194 s195 hf => ?_)
        refine l_pop 976 C dL_law_976 rfl ?_
        refine l_aload_n 977 C dL_law_977 rfl rfl ?_
        refine l_aload_n 978 C dL_law_978 rfl rfl ?_
        refine l_iload_n 979 C dL_law_979 rfl rfl ?_
        refine l_iconst (v := 1) 980 C dL_law_980 (by decide) ?_
        refine l_iadd 981 C dL_law_981 ?_
        refine l_sld 982 C dL_law_982 hf (fun v196 hf => ?_)
        refine l_aload_n 983 C dL_law_983 rfl rfl ?_
        refine l_iload_n 984 C dL_law_984 rfl rfl ?_
        refine l_iconst (v := 2) 985 C dL_law_985 (by decide) ?_
        refine l_iadd 986 C dL_law_986 ?_
        refine l_sld 987 C dL_law_987 hf (fun v197 hf => ?_)
        refine l_callM (st := []) 988 C [.int v196, .int v197] lm_L_136 ly_X11_keeper (bkM 0 _ rfl) (by decide) dL_law_988 rfl (by decide) rfl (Nat.le_of_ble_eq_true rfl) hcs (fun o1 h1 => m_X11_keeper 103 bkM v196 v197 τ o1 h1) hf (fun v198 s199 hf => ?_)
        refine l_pop 991 C dL_law_991 rfl ?_
        refine l_goto (tgt := 1113) 992 C dL_law_992 (by decide) ?_
        exact Lx.lv [0, 1, 2, 3] rfl (k_L_law_b1113 C hcs hend (f_L_law_b18 xs Ln n) ih x3 s195 s199 hf)
      refine l_case (v := 29) hf (fun hx hf => ?_) (fun hn29 hf => ?_)
      · refine l_tabIn (tgt := 995) 32 C hx dL_law_32 (by decide) rfl (by decide) ?_
        refine l_aload_n 995 C dL_law_995 rfl rfl ?_
        refine l_aload_n 996 C dL_law_996 rfl rfl ?_
        refine l_iload_n 997 C dL_law_997 rfl rfl ?_
        refine l_iconst (v := 1) 998 C dL_law_998 (by decide) ?_
        refine l_iadd 999 C dL_law_999 ?_
        refine l_sld 1000 C dL_law_1000 hf (fun v200 hf => ?_)
        refine l_aload_n 1001 C dL_law_1001 rfl rfl ?_
        refine l_iload_n 1002 C dL_law_1002 rfl rfl ?_
        refine l_iconst (v := 2) 1003 C dL_law_1003 (by decide) ?_
        refine l_iadd 1004 C dL_law_1004 ?_
        refine l_sld 1005 C dL_law_1005 hf (fun v201 hf => ?_)
        refine l_callX (st := []) 1006 C [.int v200, .int v201] lm_L_137 ly_X10_evening (bkX 0 _ rfl) (by decide) dL_law_1006 rfl (by decide) rfl (Nat.le_of_ble_eq_true rfl) hcs (fun o1 h1 => m_X10_evening 0 bkX v200 v201 σ o1 h1) hf (fun v202 s203 hf => ?_)
        refine l_pop 1009 C dL_law_1009 rfl ?_
        refine l_aload_n 1010 C dL_law_1010 rfl rfl ?_
        refine l_aload_n 1011 C dL_law_1011 rfl rfl ?_
        refine l_iload_n 1012 C dL_law_1012 rfl rfl ?_
        refine l_iconst (v := 1) 1013 C dL_law_1013 (by decide) ?_
        refine l_iadd 1014 C dL_law_1014 ?_
        refine l_sld 1015 C dL_law_1015 hf (fun v204 hf => ?_)
        refine l_aload_n 1016 C dL_law_1016 rfl rfl ?_
        refine l_iload_n 1017 C dL_law_1017 rfl rfl ?_
        refine l_iconst (v := 2) 1018 C dL_law_1018 (by decide) ?_
        refine l_iadd 1019 C dL_law_1019 ?_
        refine l_sld 1020 C dL_law_1020 hf (fun v205 hf => ?_)
        refine l_callM (st := []) 1021 C [.int v204, .int v205] lm_L_140 ly_X11_evening (bkM 0 _ rfl) (by decide) dL_law_1021 rfl (by decide) rfl (Nat.le_of_ble_eq_true rfl) hcs (fun o1 h1 => m_X11_evening 103 bkM v204 v205 τ o1 h1) hf (fun v206 s207 hf => ?_)
        refine l_pop 1024 C dL_law_1024 rfl ?_
        refine l_goto (tgt := 1113) 1025 C dL_law_1025 (by decide) ?_
        exact Lx.lv [0, 1, 2, 3] rfl (k_L_law_b1113 C hcs hend (f_L_law_b18 xs Ln n) ih x3 s203 s207 hf)
      refine l_case (v := 30) hf (fun hx hf => ?_) (fun hn30 hf => ?_)
      · refine l_tabIn (tgt := 1028) 32 C hx dL_law_32 (by decide) rfl (by decide) ?_
        refine l_aload_n 1028 C dL_law_1028 rfl rfl ?_
        refine l_aload_n 1029 C dL_law_1029 rfl rfl ?_
        refine l_iload_n 1030 C dL_law_1030 rfl rfl ?_
        refine l_iconst (v := 1) 1031 C dL_law_1031 (by decide) ?_
        refine l_iadd 1032 C dL_law_1032 ?_
        refine l_sld 1033 C dL_law_1033 hf (fun v208 hf => ?_)
        refine l_callX (st := []) 1034 C [.int v208] lm_L_141 ly_X10_row (bkX 0 _ rfl) (by decide) dL_law_1034 rfl (by decide) rfl (Nat.le_of_ble_eq_true rfl) hcs (fun o1 h1 => m_X10_row 0 bkX v208 σ o1 h1) hf (fun v209 s210 hf => ?_)
        refine l_pop 1037 C dL_law_1037 rfl ?_
        refine l_aload_n 1038 C dL_law_1038 rfl rfl ?_
        refine l_aload_n 1039 C dL_law_1039 rfl rfl ?_
        refine l_iload_n 1040 C dL_law_1040 rfl rfl ?_
        refine l_iconst (v := 1) 1041 C dL_law_1041 (by decide) ?_
        refine l_iadd 1042 C dL_law_1042 ?_
        refine l_sld 1043 C dL_law_1043 hf (fun v211 hf => ?_)
        refine l_callM (st := []) 1044 C [.int v211] lm_L_144 ly_X11_row (bkM 0 _ rfl) (by decide) dL_law_1044 rfl (by decide) rfl (Nat.le_of_ble_eq_true rfl) hcs (fun o1 h1 => m_X11_row 103 bkM v211 τ o1 h1) hf (fun v212 s213 hf => ?_)
        refine l_pop 1047 C dL_law_1047 rfl ?_
        refine l_goto (tgt := 1113) 1048 C dL_law_1048 (by decide) ?_
        exact Lx.lv [0, 1, 2, 3] rfl (k_L_law_b1113 C hcs hend (f_L_law_b18 xs Ln n) ih x3 s210 s213 hf)
      refine l_case (v := 31) hf (fun hx hf => ?_) (fun hn31 hf => ?_)
      · refine l_tabIn (tgt := 1051) 32 C hx dL_law_32 (by decide) rfl (by decide) ?_
        refine l_aload_n 1051 C dL_law_1051 rfl rfl ?_
        refine l_callX (st := []) 1052 C [] lm_L_145 ly_X10_judge (bkX 0 _ rfl) (by decide) dL_law_1052 rfl (by decide) rfl (Nat.le_of_ble_eq_true rfl) hcs (fun o1 h1 => m_X10_judge 0 bkX  σ o1 h1) hf (fun v214 s215 hf => ?_)
        refine l_pop 1055 C dL_law_1055 rfl ?_
        refine l_aload_n 1056 C dL_law_1056 rfl rfl ?_
        refine l_callM (st := []) 1057 C [] lm_L_148 ly_X11_judge (bkM 0 _ rfl) (by decide) dL_law_1057 rfl (by decide) rfl (Nat.le_of_ble_eq_true rfl) hcs (fun o1 h1 => m_X11_judge 103 bkM  τ o1 h1) hf (fun v216 s217 hf => ?_)
        refine l_pop 1060 C dL_law_1060 rfl ?_
        refine l_goto (tgt := 1113) 1061 C dL_law_1061 (by decide) ?_
        exact Lx.lv [0, 1, 2, 3] rfl (k_L_law_b1113 C hcs hend (f_L_law_b18 xs Ln n) ih x3 s215 s217 hf)
      refine l_case (v := 32) hf (fun hx hf => ?_) (fun hn32 hf => ?_)
      · refine l_tabIn (tgt := 1064) 32 C hx dL_law_32 (by decide) rfl (by decide) ?_
        refine l_aload_n 1064 C dL_law_1064 rfl rfl ?_
        refine l_callX (st := []) 1065 C [] lm_L_149 ly_X10_image (bkX 0 _ rfl) (by decide) dL_law_1065 rfl (by decide) rfl (Nat.le_of_ble_eq_true rfl) hcs (fun o1 h1 => m_X10_image 0 bkX  σ o1 h1) hf (fun v218 s219 hf => ?_)
        refine l_pop 1068 C dL_law_1068 rfl ?_
        refine l_aload_n 1069 C dL_law_1069 rfl rfl ?_
        refine l_callM (st := []) 1070 C [] lm_L_152 ly_X11_image (bkM 0 _ rfl) (by decide) dL_law_1070 rfl (by decide) rfl (Nat.le_of_ble_eq_true rfl) hcs (fun o1 h1 => m_X11_image 103 bkM  τ o1 h1) hf (fun v220 s221 hf => ?_)
        refine l_pop 1073 C dL_law_1073 rfl ?_
        refine l_goto (tgt := 1113) 1074 C dL_law_1074 (by decide) ?_
        exact Lx.lv [0, 1, 2, 3] rfl (k_L_law_b1113 C hcs hend (f_L_law_b18 xs Ln n) ih x3 s219 s221 hf)
      refine l_case (v := 33) hf (fun hx hf => ?_) (fun hn33 hf => ?_)
      · refine l_tabIn (tgt := 1077) 32 C hx dL_law_32 (by decide) rfl (by decide) ?_
        refine l_aload_n 1077 C dL_law_1077 rfl rfl ?_
        refine l_callX (st := []) 1078 C [] lm_L_153 ly_X10_on (bkX 0 _ rfl) (by decide) dL_law_1078 rfl (by decide) rfl (Nat.le_of_ble_eq_true rfl) hcs (fun o1 h1 => m_X10_on 0 bkX  σ o1 h1) hf (fun v222 s223 hf => ?_)
        refine l_aload_n 1081 C dL_law_1081 rfl rfl ?_
        refine l_callM (st := [.int v222]) 1082 C [] lm_L_156 ly_X11_on (bkM 0 _ rfl) (by decide) dL_law_1082 rfl (by decide) rfl (Nat.le_of_ble_eq_true rfl) hcs (fun o1 h1 => m_X11_on 103 bkM  τ o1 h1) hf (fun v224 s225 hf => ?_)
        refine l_icmp_eq (tgt := 1113) 1085 C dL_law_1085 (by decide) hf (fun hf => ?_) (fun hf => ?_)
        · exact Lx.lv [0, 1, 2, 3] rfl (k_L_law_b1113 C hcs hend (f_L_law_b18 xs Ln n) ih x3 s223 s225 hf)
        · refine l_iconst (v := 0) 1088 C dL_law_1088 (by decide) ?_
          cases hf
      refine l_case (v := 34) hf (fun hx hf => ?_) (fun hn34 hf => ?_)
      · refine l_tabIn (tgt := 1090) 32 C hx dL_law_32 (by decide) rfl (by decide) ?_
        refine l_aload_n 1090 C dL_law_1090 rfl rfl ?_
        refine l_aload_n 1091 C dL_law_1091 rfl rfl ?_
        refine l_iload_n 1092 C dL_law_1092 rfl rfl ?_
        refine l_iconst (v := 1) 1093 C dL_law_1093 (by decide) ?_
        refine l_iadd 1094 C dL_law_1094 ?_
        refine l_sld 1095 C dL_law_1095 hf (fun v226 hf => ?_)
        refine l_callX (st := []) 1096 C [.int v226] lm_L_157 ly_X10_count (bkX 0 _ rfl) (by decide) dL_law_1096 rfl (by decide) rfl (Nat.le_of_ble_eq_true rfl) hcs (fun o1 h1 => m_X10_count 0 bkX v226 σ o1 h1) hf (fun v227 s228 hf => ?_)
        refine l_pop 1099 C dL_law_1099 rfl ?_
        refine l_aload_n 1100 C dL_law_1100 rfl rfl ?_
        refine l_aload_n 1101 C dL_law_1101 rfl rfl ?_
        refine l_iload_n 1102 C dL_law_1102 rfl rfl ?_
        refine l_iconst (v := 1) 1103 C dL_law_1103 (by decide) ?_
        refine l_iadd 1104 C dL_law_1104 ?_
        refine l_sld 1105 C dL_law_1105 hf (fun v229 hf => ?_)
        refine l_callM (st := []) 1106 C [.int v229] lm_L_160 ly_X11_count (bkM 0 _ rfl) (by decide) dL_law_1106 rfl (by decide) rfl (Nat.le_of_ble_eq_true rfl) hcs (fun o1 h1 => m_X11_count 103 bkM v229 τ o1 h1) hf (fun v230 s231 hf => ?_)
        refine l_pop 1109 C dL_law_1109 rfl ?_
        refine l_goto (tgt := 1113) 1110 C dL_law_1110 (by decide) ?_
        exact Lx.lv [0, 1, 2, 3] rfl (k_L_law_b1113 C hcs hend (f_L_law_b18 xs Ln n) ih x3 s228 s231 hf)
      refine l_tabOut (tgt := 1113) 32 C dL_law_32 (by have g0 := lv_neT hn0 (show (0 : Int32).toInt = 0 from rfl); have g1 := lv_neT hn1 (show (1 : Int32).toInt = 1 from rfl); have g2 := lv_neT hn2 (show (2 : Int32).toInt = 2 from rfl); have g3 := lv_neT hn3 (show (3 : Int32).toInt = 3 from rfl); have g4 := lv_neT hn4 (show (4 : Int32).toInt = 4 from rfl); have g5 := lv_neT hn5 (show (5 : Int32).toInt = 5 from rfl); have g6 := lv_neT hn6 (show (6 : Int32).toInt = 6 from rfl); have g7 := lv_neT hn7 (show (7 : Int32).toInt = 7 from rfl); have g8 := lv_neT hn8 (show (8 : Int32).toInt = 8 from rfl); have g9 := lv_neT hn9 (show (9 : Int32).toInt = 9 from rfl); have g10 := lv_neT hn10 (show (10 : Int32).toInt = 10 from rfl); have g11 := lv_neT hn11 (show (11 : Int32).toInt = 11 from rfl); have g12 := lv_neT hn12 (show (12 : Int32).toInt = 12 from rfl); have g13 := lv_neT hn13 (show (13 : Int32).toInt = 13 from rfl); have g14 := lv_neT hn14 (show (14 : Int32).toInt = 14 from rfl); have g15 := lv_neT hn15 (show (15 : Int32).toInt = 15 from rfl); have g16 := lv_neT hn16 (show (16 : Int32).toInt = 16 from rfl); have g17 := lv_neT hn17 (show (17 : Int32).toInt = 17 from rfl); have g18 := lv_neT hn18 (show (18 : Int32).toInt = 18 from rfl); have g19 := lv_neT hn19 (show (19 : Int32).toInt = 19 from rfl); have g20 := lv_neT hn20 (show (20 : Int32).toInt = 20 from rfl); have g21 := lv_neT hn21 (show (21 : Int32).toInt = 21 from rfl); have g22 := lv_neT hn22 (show (22 : Int32).toInt = 22 from rfl); have g23 := lv_neT hn23 (show (23 : Int32).toInt = 23 from rfl); have g24 := lv_neT hn24 (show (24 : Int32).toInt = 24 from rfl); have g25 := lv_neT hn25 (show (25 : Int32).toInt = 25 from rfl); have g26 := lv_neT hn26 (show (26 : Int32).toInt = 26 from rfl); have g27 := lv_neT hn27 (show (27 : Int32).toInt = 27 from rfl); have g28 := lv_neT hn28 (show (28 : Int32).toInt = 28 from rfl); have g29 := lv_neT hn29 (show (29 : Int32).toInt = 29 from rfl); have g30 := lv_neT hn30 (show (30 : Int32).toInt = 30 from rfl); have g31 := lv_neT hn31 (show (31 : Int32).toInt = 31 from rfl); have g32 := lv_neT hn32 (show (32 : Int32).toInt = 32 from rfl); have g33 := lv_neT hn33 (show (33 : Int32).toInt = 33 from rfl); have g34 := lv_neT hn34 (show (34 : Int32).toInt = 34 from rfl); omega) (by decide) ?_
      exact Lx.lv [0, 1, 2, 3] rfl (k_L_law_b1113 C hcs hend (f_L_law_b18 xs Ln n) ih x3 σ τ hf)
