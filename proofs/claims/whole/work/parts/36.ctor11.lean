set_option maxRecDepth 20000 in
def i_X11 (a0 : Nat) (cs : List CC) : Option (List CC) :=
  (nwA 0 7 cs).bind fun c1 =>
  (pF 11 1 (.ref (cs.length)) a0 c1).bind fun c3 =>
  (nwA 0 5662 c3).bind fun c5 =>
  (pF 11 2 (.ref (c3.length)) a0 c5).bind fun c7 =>
  (nwA 0 11324 c7).bind fun c9 =>
  (pF 11 3 (.ref (c7.length)) a0 c9).bind fun c11 =>
  (nwA 2 2 c11).bind fun c13 =>
  (pF 11 4 (.ref (c11.length)) a0 c13).bind fun c15 =>
  (nwA 0 50 c15).bind fun c17 =>
  (pF 11 5 (.ref (c15.length)) a0 c17).bind fun c19 =>
  (nwA 1 144 c19).bind fun c21 =>
  (sAI 1 (c19.length) 0 (112 : Int32) c21).bind fun c23 =>
  (sAI 1 (c19.length) 1 (97 : Int32) c23).bind fun c25 =>
  (sAI 1 (c19.length) 2 (115 : Int32) c25).bind fun c27 =>
  (sAI 1 (c19.length) 3 (115 : Int32) c27).bind fun c29 =>
  (sAI 1 (c19.length) 4 (101 : Int32) c29).bind fun c31 =>
  (sAI 1 (c19.length) 5 (115 : Int32) c31).bind fun c33 =>
  (sAI 1 (c19.length) 6 (32 : Int32) c33).bind fun c35 =>
  (sAI 1 (c19.length) 7 (107 : Int32) c35).bind fun c37 =>
  (sAI 1 (c19.length) 8 (101 : Int32) c37).bind fun c39 =>
  (sAI 1 (c19.length) 9 (101 : Int32) c39).bind fun c41 =>
  (sAI 1 (c19.length) 10 (112 : Int32) c41).bind fun c43 =>
  (sAI 1 (c19.length) 11 (115 : Int32) c43).bind fun c45 =>
  (sAI 1 (c19.length) 12 (32 : Int32) c45).bind fun c47 =>
  (sAI 1 (c19.length) 13 (108 : Int32) c47).bind fun c49 =>
  (sAI 1 (c19.length) 14 (101 : Int32) c49).bind fun c51 =>
  (sAI 1 (c19.length) 15 (97 : Int32) c51).bind fun c53 =>
  (sAI 1 (c19.length) 16 (118 : Int32) c53).bind fun c55 =>
  (sAI 1 (c19.length) 17 (101 : Int32) c55).bind fun c57 =>
  (sAI 1 (c19.length) 18 (115 : Int32) c57).bind fun c59 =>
  (sAI 1 (c19.length) 19 (32 : Int32) c59).bind fun c61 =>
  (sAI 1 (c19.length) 20 (105 : Int32) c61).bind fun c63 =>
  (sAI 1 (c19.length) 21 (102 : Int32) c63).bind fun c65 =>
  (sAI 1 (c19.length) 22 (32 : Int32) c65).bind fun c67 =>
  (sAI 1 (c19.length) 23 (111 : Int32) c67).bind fun c69 =>
  (sAI 1 (c19.length) 24 (114 : Int32) c69).bind fun c71 =>
  (sAI 1 (c19.length) 25 (32 : Int32) c71).bind fun c73 =>
  (sAI 1 (c19.length) 26 (97 : Int32) c73).bind fun c75 =>
  (sAI 1 (c19.length) 27 (110 : Int32) c75).bind fun c77 =>
  (sAI 1 (c19.length) 28 (100 : Int32) c77).bind fun c79 =>
  (sAI 1 (c19.length) 29 (32 : Int32) c79).bind fun c81 =>
  (sAI 1 (c19.length) 30 (110 : Int32) c81).bind fun c83 =>
  (sAI 1 (c19.length) 31 (111 : Int32) c83).bind fun c85 =>
  (sAI 1 (c19.length) 32 (116 : Int32) c85).bind fun c87 =>
  (sAI 1 (c19.length) 33 (32 : Int32) c87).bind fun c89 =>
  (sAI 1 (c19.length) 34 (115 : Int32) c89).bind fun c91 =>
  (sAI 1 (c19.length) 35 (105 : Int32) c91).bind fun c93 =>
  (sAI 1 (c19.length) 36 (116 : Int32) c93).bind fun c95 =>
  (sAI 1 (c19.length) 37 (116 : Int32) c95).bind fun c97 =>
  (sAI 1 (c19.length) 38 (101 : Int32) c97).bind fun c99 =>
  (sAI 1 (c19.length) 39 (114 : Int32) c99).bind fun c101 =>
  (sAI 1 (c19.length) 40 (32 : Int32) c101).bind fun c103 =>
  (sAI 1 (c19.length) 41 (111 : Int32) c103).bind fun c105 =>
  (sAI 1 (c19.length) 42 (116 : Int32) c105).bind fun c107 =>
  (sAI 1 (c19.length) 43 (104 : Int32) c107).bind fun c109 =>
  (sAI 1 (c19.length) 44 (101 : Int32) c109).bind fun c111 =>
  (sAI 1 (c19.length) 45 (114 : Int32) c111).bind fun c113 =>
  (sAI 1 (c19.length) 46 (32 : Int32) c113).bind fun c115 =>
  (sAI 1 (c19.length) 47 (116 : Int32) c115).bind fun c117 =>
  (sAI 1 (c19.length) 48 (105 : Int32) c117).bind fun c119 =>
  (sAI 1 (c19.length) 49 (101 : Int32) c119).bind fun c121 =>
  (sAI 1 (c19.length) 50 (114 : Int32) c121).bind fun c123 =>
  (sAI 1 (c19.length) 51 (32 : Int32) c123).bind fun c125 =>
  (sAI 1 (c19.length) 52 (110 : Int32) c125).bind fun c127 =>
  (sAI 1 (c19.length) 53 (97 : Int32) c127).bind fun c129 =>
  (sAI 1 (c19.length) 54 (116 : Int32) c129).bind fun c131 =>
  (sAI 1 (c19.length) 55 (105 : Int32) c131).bind fun c133 =>
  (sAI 1 (c19.length) 56 (111 : Int32) c133).bind fun c135 =>
  (sAI 1 (c19.length) 57 (110 : Int32) c135).bind fun c137 =>
  (sAI 1 (c19.length) 58 (32 : Int32) c137).bind fun c139 =>
  (sAI 1 (c19.length) 59 (119 : Int32) c139).bind fun c141 =>
  (sAI 1 (c19.length) 60 (105 : Int32) c141).bind fun c143 =>
  (sAI 1 (c19.length) 61 (115 : Int32) c143).bind fun c145 =>
  (sAI 1 (c19.length) 62 (104 : Int32) c145).bind fun c147 =>
  (sAI 1 (c19.length) 63 (32 : Int32) c147).bind fun c149 =>
  (sAI 1 (c19.length) 64 (109 : Int32) c149).bind fun c151 =>
  (sAI 1 (c19.length) 65 (111 : Int32) c151).bind fun c153 =>
  (sAI 1 (c19.length) 66 (111 : Int32) c153).bind fun c155 =>
  (sAI 1 (c19.length) 67 (100 : Int32) c155).bind fun c157 =>
  (sAI 1 (c19.length) 68 (32 : Int32) c157).bind fun c159 =>
  (sAI 1 (c19.length) 69 (109 : Int32) c159).bind fun c161 =>
  (sAI 1 (c19.length) 70 (117 : Int32) c161).bind fun c163 =>
  (sAI 1 (c19.length) 71 (99 : Int32) c163).bind fun c165 =>
  (sAI 1 (c19.length) 72 (104 : Int32) c165).bind fun c167 =>
  (sAI 1 (c19.length) 73 (32 : Int32) c167).bind fun c169 =>
  (sAI 1 (c19.length) 74 (109 : Int32) c169).bind fun c171 =>
  (sAI 1 (c19.length) 75 (105 : Int32) c171).bind fun c173 =>
  (sAI 1 (c19.length) 76 (110 : Int32) c173).bind fun c175 =>
  (sAI 1 (c19.length) 77 (117 : Int32) c175).bind fun c177 =>
  (sAI 1 (c19.length) 78 (116 : Int32) c177).bind fun c179 =>
  (sAI 1 (c19.length) 79 (101 : Int32) c179).bind fun c181 =>
  (sAI 1 (c19.length) 80 (32 : Int32) c181).bind fun c183 =>
  (sAI 1 (c19.length) 81 (100 : Int32) c183).bind fun c185 =>
  (sAI 1 (c19.length) 82 (111 : Int32) c185).bind fun c187 =>
  (sAI 1 (c19.length) 83 (110 : Int32) c187).bind fun c189 =>
  (sAI 1 (c19.length) 84 (101 : Int32) c189).bind fun c191 =>
  (sAI 1 (c19.length) 85 (32 : Int32) c191).bind fun c193 =>
  (sAI 1 (c19.length) 86 (108 : Int32) c193).bind fun c195 =>
  (sAI 1 (c19.length) 87 (97 : Int32) c195).bind fun c197 =>
  (sAI 1 (c19.length) 88 (116 : Int32) c197).bind fun c199 =>
  (sAI 1 (c19.length) 89 (101 : Int32) c199).bind fun c201 =>
  (sAI 1 (c19.length) 90 (115 : Int32) c201).bind fun c203 =>
  (sAI 1 (c19.length) 91 (116 : Int32) c203).bind fun c205 =>
  (sAI 1 (c19.length) 92 (32 : Int32) c205).bind fun c207 =>
  (sAI 1 (c19.length) 93 (105 : Int32) c207).bind fun c209 =>
  (sAI 1 (c19.length) 94 (110 : Int32) c209).bind fun c211 =>
  (sAI 1 (c19.length) 95 (115 : Int32) c211).bind fun c213 =>
  (sAI 1 (c19.length) 96 (105 : Int32) c213).bind fun c215 =>
  (sAI 1 (c19.length) 97 (100 : Int32) c215).bind fun c217 =>
  (sAI 1 (c19.length) 98 (101 : Int32) c217).bind fun c219 =>
  (sAI 1 (c19.length) 99 (32 : Int32) c219).bind fun c221 =>
  (sAI 1 (c19.length) 100 (112 : Int32) c221).bind fun c223 =>
  (sAI 1 (c19.length) 101 (108 : Int32) c223).bind fun c225 =>
  (sAI 1 (c19.length) 102 (101 : Int32) c225).bind fun c227 =>
  (sAI 1 (c19.length) 103 (97 : Int32) c227).bind fun c229 =>
  (sAI 1 (c19.length) 104 (115 : Int32) c229).bind fun c231 =>
  (sAI 1 (c19.length) 105 (101 : Int32) c231).bind fun c233 =>
  (sAI 1 (c19.length) 106 (100 : Int32) c233).bind fun c235 =>
  (sAI 1 (c19.length) 107 (32 : Int32) c235).bind fun c237 =>
  (sAI 1 (c19.length) 108 (105 : Int32) c237).bind fun c239 =>
  (sAI 1 (c19.length) 109 (115 : Int32) c239).bind fun c241 =>
  (sAI 1 (c19.length) 110 (32 : Int32) c241).bind fun c243 =>
  (sAI 1 (c19.length) 111 (115 : Int32) c243).bind fun c245 =>
  (sAI 1 (c19.length) 112 (101 : Int32) c245).bind fun c247 =>
  (sAI 1 (c19.length) 113 (97 : Int32) c247).bind fun c249 =>
  (sAI 1 (c19.length) 114 (116 : Int32) c249).bind fun c251 =>
  (sAI 1 (c19.length) 115 (32 : Int32) c251).bind fun c253 =>
  (sAI 1 (c19.length) 116 (97 : Int32) c253).bind fun c255 =>
  (sAI 1 (c19.length) 117 (116 : Int32) c255).bind fun c257 =>
  (sAI 1 (c19.length) 118 (32 : Int32) c257).bind fun c259 =>
  (sAI 1 (c19.length) 119 (111 : Int32) c259).bind fun c261 =>
  (sAI 1 (c19.length) 120 (117 : Int32) c261).bind fun c263 =>
  (sAI 1 (c19.length) 121 (116 : Int32) c263).bind fun c265 =>
  (sAI 1 (c19.length) 122 (32 : Int32) c265).bind fun c267 =>
  (sAI 1 (c19.length) 123 (115 : Int32) c267).bind fun c269 =>
  (sAI 1 (c19.length) 124 (119 : Int32) c269).bind fun c271 =>
  (sAI 1 (c19.length) 125 (97 : Int32) c271).bind fun c273 =>
  (sAI 1 (c19.length) 126 (112 : Int32) c273).bind fun c275 =>
  (sAI 1 (c19.length) 127 (32 : Int32) c275).bind fun c277 =>
  (sAI 1 (c19.length) 128 (119 : Int32) c277).bind fun c279 =>
  (sAI 1 (c19.length) 129 (105 : Int32) c279).bind fun c281 =>
  (sAI 1 (c19.length) 130 (116 : Int32) c281).bind fun c283 =>
  (sAI 1 (c19.length) 131 (104 : Int32) c283).bind fun c285 =>
  (sAI 1 (c19.length) 132 (32 : Int32) c285).bind fun c287 =>
  (sAI 1 (c19.length) 133 (112 : Int32) c287).bind fun c289 =>
  (sAI 1 (c19.length) 134 (97 : Int32) c289).bind fun c291 =>
  (sAI 1 (c19.length) 135 (115 : Int32) c291).bind fun c293 =>
  (sAI 1 (c19.length) 136 (115 : Int32) c293).bind fun c295 =>
  (sAI 1 (c19.length) 137 (32 : Int32) c295).bind fun c297 =>
  (sAI 1 (c19.length) 138 (116 : Int32) c297).bind fun c299 =>
  (sAI 1 (c19.length) 139 (105 : Int32) c299).bind fun c301 =>
  (sAI 1 (c19.length) 140 (109 : Int32) c301).bind fun c303 =>
  (sAI 1 (c19.length) 141 (101 : Int32) c303).bind fun c305 =>
  (sAI 1 (c19.length) 142 (115 : Int32) c305).bind fun c307 =>
  (sAI 1 (c19.length) 143 (32 : Int32) c307).bind fun c309 =>
  (pF 11 7 (.ref (c19.length)) a0 c309).bind fun c311 =>
  (nwA 1 400 c311).bind fun c313 =>
  (pF 11 11 (.ref (c311.length)) a0 c313).bind fun c315 =>
  (nwA 0 5 c315).bind fun c317 =>
  (pF 11 12 (.ref (c315.length)) a0 c317).bind fun c319 =>
  (pF 11 14 (.int (-1 : Int32)) a0 c319).bind fun c321 =>
  (nwA 0 401 c321).bind fun c323 =>
  (pF 11 15 (.ref (c321.length)) a0 c323).bind fun c325 =>
  (nwA 0 401 c325).bind fun c327 =>
  (pF 11 16 (.ref (c325.length)) a0 c327).bind fun c329 =>
  (nwA 0 401 c329).bind fun c331 =>
  (pF 11 17 (.ref (c329.length)) a0 c331).bind fun c333 =>
  (nwA 0 8 c333).bind fun c335 =>
  (pF 11 26 (.ref (c333.length)) a0 c335).bind fun c337 =>
  (nwA 0 18 c337).bind fun c339 =>
  (pF 11 29 (.ref (c337.length)) a0 c339).bind fun c341 =>
  (nwA 0 416 c341).bind fun c343 =>
  (pF 11 30 (.ref (c341.length)) a0 c343).bind fun c345 =>
  (nwA 0 416 c345).bind fun c347 =>
  (pF 11 31 (.ref (c345.length)) a0 c347).bind fun c349 =>
  (nwA 0 6 c349).bind fun c351 =>
  (pF 11 33 (.ref (c349.length)) a0 c351).bind fun c353 =>
  (nwA 0 6 c353).bind fun c355 =>
  (pF 11 34 (.ref (c353.length)) a0 c355).bind fun c357 =>
  (nwA 0 720 c357).bind fun c359 =>
  (pF 11 37 (.ref (c357.length)) a0 c359).bind fun c361 =>
  (nwA 0 720 c361).bind fun c363 =>
  (pF 11 38 (.ref (c361.length)) a0 c363).bind fun c365 =>
  (nwA 0 720 c365).bind fun c367 =>
  (pF 11 39 (.ref (c365.length)) a0 c367).bind fun c369 =>
  (nwA 2 720 c369).bind fun c371 =>
  (pF 11 40 (.ref (c369.length)) a0 c371).bind fun c373 =>
  (nwA 0 4320 c373).bind fun c375 =>
  (pF 11 41 (.ref (c373.length)) a0 c375).bind fun c377 =>
  (nwA 0 3 c377).bind fun c379 =>
  (pF 11 42 (.ref (c377.length)) a0 c379).bind fun c381 =>
  (nwA 0 6 c381).bind fun c383 =>
  (pF 11 43 (.ref (c381.length)) a0 c383).bind fun c385 =>
  (nwA 0 6 c385).bind fun c387 =>
  (pF 11 44 (.ref (c385.length)) a0 c387).bind fun c389 =>
  (nwA 3 21 c389).bind fun c391 =>
  (pF 11 45 (.ref (c389.length)) a0 c391).bind fun c393 =>
  (pF 11 46 (.int (-1 : Int32)) a0 c393).bind fun c395 =>
  (nwA 3 2 c395).bind fun c397 =>
  (pF 11 52 (.ref (c395.length)) a0 c397).bind fun c399 =>
  (nwA 0 25 c399).bind fun c401 =>
  (pF 11 53 (.ref (c399.length)) a0 c401).bind fun c403 =>
  (pF 11 54 (.int (-1 : Int32)) a0 c403).bind fun c405 =>
  (gR 11 2 a0 c405).bind fun b407 =>
  (sAI 0 b407 49 (1 : Int32) c405).bind fun c409 =>
  (gR 11 2 a0 c409).bind fun b411 =>
  (sAI 0 b411 54 (-1 : Int32) c409).bind fun c413 =>
  some c413
set_option maxRecDepth 20000 in
set_option maxHeartbeats 4000000 in
theorem wi_X11 (a0 : Nat) (cs q : List CC) (hrun : i_X11 a0 cs = some q) : MetC ⟨"SteamNationsModel", "<init>", "()V"⟩ prog_13_method_12_code 1 none 1 28 26930 [.ref a0] cs none q := by
  refine metC_of (by decide +kernel) (Nat.le_of_ble_eq_true rfl) (fun X C Hi K => ?_)
  have C : Cx X cn_11 prog_13_method_12_code 1 none 1 28 26930 := C
  have Hi := Hi rfl
  show Gc X cs 0 0 0 [(0, .ref a0)] []
  unfold i_X11 at hrun
  refine gc_aload_n C (dat dt_X11_init_0 0 rfl) 0 rfl ?_
  refine gc_objInit C (dat dt_X11_init_0 1 rfl) ol_11 oi_1 oi_2 (by decide) ?_
  refine gc_aload_n C (dat dt_X11_init_0 2 rfl) 0 rfl ?_
  refine gc_bipush C (dat dt_X11_init_0 3 rfl) bp_7 ?_
  obtain ⟨c1, e2, hrun⟩ := bd hrun
  refine gc_newa (t := 0) (N := 7) C (dat dt_X11_init_0 4 rfl) rfl rfl ac_int (by decide) (by decide) (by decide) e2 ⟨by decide, by decide⟩ ?_
  obtain ⟨c3, e4, hrun⟩ := bd hrun
  refine gc_putF C Hi (dat dt_X11_init_0 5 rfl) ff_11_7 (fun E => ⟨rfl, rfl⟩) e4 ?_
  refine gc_aload_n C (dat dt_X11_init_0 6 rfl) 0 rfl ?_
  refine gc_sipush C (dat dt_X11_init_0 7 rfl) sp_5662 ?_
  obtain ⟨c5, e6, hrun⟩ := bd hrun
  refine gc_newa (t := 0) (N := 5662) C (dat dt_X11_init_0 8 rfl) rfl rfl ac_int (by decide) (by decide) (by decide) e6 ⟨by decide, by decide⟩ ?_
  obtain ⟨c7, e8, hrun⟩ := bd hrun
  refine gc_putF C Hi (dat dt_X11_init_0 9 rfl) ff_11_28 (fun E => ⟨rfl, rfl⟩) e8 ?_
  refine gc_aload_n C (dat dt_X11_init_0 10 rfl) 0 rfl ?_
  refine gc_sipush C (dat dt_X11_init_0 11 rfl) sp_11324 ?_
  obtain ⟨c9, e10, hrun⟩ := bd hrun
  refine gc_newa (t := 0) (N := 11324) C (dat dt_X11_init_0 12 rfl) rfl rfl ac_int (by decide) (by decide) (by decide) e10 ⟨by decide, by decide⟩ ?_
  obtain ⟨c11, e12, hrun⟩ := bd hrun
  refine gc_putF C Hi (dat dt_X11_init_0 13 rfl) ff_11_31 (fun E => ⟨rfl, rfl⟩) e12 ?_
  refine gc_aload_n C (dat dt_X11_init_0 14 rfl) 0 rfl ?_
  refine gc_iconst C (dat dt_X11_init_0 15 rfl) ic_2 ?_
  obtain ⟨c13, e14, hrun⟩ := bd hrun
  refine gc_newa (t := 2) (N := 2) C (dat dt_X11_init_0 16 rfl) rfl rfl ac_boolean (by decide) (by decide) (by decide) e14 ⟨by decide, by decide⟩ ?_
  obtain ⟨c15, e16, hrun⟩ := bd hrun
  refine gc_putF C Hi (dat dt_X11_init_0 17 rfl) ff_11_34 (fun E => ⟨rfl, rfl⟩) e16 ?_
  refine gc_aload_n C (dat dt_X11_init_0 18 rfl) 0 rfl ?_
  refine gc_bipush C (dat dt_X11_init_0 19 rfl) bp_50 ?_
  obtain ⟨c17, e18, hrun⟩ := bd hrun
  refine gc_newa (t := 0) (N := 50) C (dat dt_X11_init_0 20 rfl) rfl rfl ac_int (by decide) (by decide) (by decide) e18 ⟨by decide, by decide⟩ ?_
  obtain ⟨c19, e20, hrun⟩ := bd hrun
  refine gc_putF C Hi (dat dt_X11_init_0 21 rfl) ff_11_38 (fun E => ⟨rfl, rfl⟩) e20 ?_
  refine gc_aload_n C (dat dt_X11_init_0 22 rfl) 0 rfl ?_
  refine gc_sipush C (dat dt_X11_init_0 23 rfl) sp_144 ?_
  obtain ⟨c21, e22, hrun⟩ := bd hrun
  refine gc_newa (t := 1) (N := 144) C (dat dt_X11_init_0 24 rfl) rfl rfl ac_byte (by decide) (by decide) (by decide) e22 ⟨by decide, by decide⟩ ?_
  refine gc_dup C (dat dt_X11_init_0 25 rfl) rfl ?_
  refine gc_iconst C (dat dt_X11_init_0 26 rfl) ic_0 ?_
  refine gc_bipush C (dat dt_X11_init_0 27 rfl) bp_112 ?_
  obtain ⟨c23, e24, hrun⟩ := bd hrun
  refine gc_ast (t := 1) (j := 0) C (dat dt_X11_init_0 28 rfl) (Or.inr ⟨rfl, rfl⟩) (fun _ => by decide) (by decide) (by decide) e24 ?_
  refine gc_dup C (dat dt_X11_init_0 29 rfl) rfl ?_
  refine gc_iconst C (dat dt_X11_init_0 30 rfl) ic_1 ?_
  refine gc_bipush C (dat dt_X11_init_0 31 rfl) bp_97 ?_
  obtain ⟨c25, e26, hrun⟩ := bd hrun
  refine gc_ast (t := 1) (j := 1) C (dat dt_X11_init_0 32 rfl) (Or.inr ⟨rfl, rfl⟩) (fun _ => by decide) (by decide) (by decide) e26 ?_
  refine gc_dup C (dat dt_X11_init_0 33 rfl) rfl ?_
  refine gc_iconst C (dat dt_X11_init_0 34 rfl) ic_2 ?_
  refine gc_bipush C (dat dt_X11_init_0 35 rfl) bp_115 ?_
  obtain ⟨c27, e28, hrun⟩ := bd hrun
  refine gc_ast (t := 1) (j := 2) C (dat dt_X11_init_0 36 rfl) (Or.inr ⟨rfl, rfl⟩) (fun _ => by decide) (by decide) (by decide) e28 ?_
  refine gc_dup C (dat dt_X11_init_0 37 rfl) rfl ?_
  refine gc_iconst C (dat dt_X11_init_0 38 rfl) ic_3 ?_
  refine gc_bipush C (dat dt_X11_init_0 39 rfl) bp_115 ?_
  obtain ⟨c29, e30, hrun⟩ := bd hrun
  refine gc_ast (t := 1) (j := 3) C (dat dt_X11_init_0 40 rfl) (Or.inr ⟨rfl, rfl⟩) (fun _ => by decide) (by decide) (by decide) e30 ?_
  refine gc_dup C (dat dt_X11_init_0 41 rfl) rfl ?_
  refine gc_iconst C (dat dt_X11_init_0 42 rfl) ic_4 ?_
  refine gc_bipush C (dat dt_X11_init_0 43 rfl) bp_101 ?_
  obtain ⟨c31, e32, hrun⟩ := bd hrun
  refine gc_ast (t := 1) (j := 4) C (dat dt_X11_init_0 44 rfl) (Or.inr ⟨rfl, rfl⟩) (fun _ => by decide) (by decide) (by decide) e32 ?_
  refine gc_dup C (dat dt_X11_init_0 45 rfl) rfl ?_
  refine gc_iconst C (dat dt_X11_init_0 46 rfl) ic_5 ?_
  refine gc_bipush C (dat dt_X11_init_0 47 rfl) bp_115 ?_
  obtain ⟨c33, e34, hrun⟩ := bd hrun
  refine gc_ast (t := 1) (j := 5) C (dat dt_X11_init_0 48 rfl) (Or.inr ⟨rfl, rfl⟩) (fun _ => by decide) (by decide) (by decide) e34 ?_
  refine gc_dup C (dat dt_X11_init_0 49 rfl) rfl ?_
  refine gc_bipush C (dat dt_X11_init_0 50 rfl) bp_6 ?_
  refine gc_bipush C (dat dt_X11_init_0 51 rfl) bp_32 ?_
  obtain ⟨c35, e36, hrun⟩ := bd hrun
  refine gc_ast (t := 1) (j := 6) C (dat dt_X11_init_0 52 rfl) (Or.inr ⟨rfl, rfl⟩) (fun _ => by decide) (by decide) (by decide) e36 ?_
  refine gc_dup C (dat dt_X11_init_0 53 rfl) rfl ?_
  refine gc_bipush C (dat dt_X11_init_0 54 rfl) bp_7 ?_
  refine gc_bipush C (dat dt_X11_init_0 55 rfl) bp_107 ?_
  obtain ⟨c37, e38, hrun⟩ := bd hrun
  refine gc_ast (t := 1) (j := 7) C (dat dt_X11_init_0 56 rfl) (Or.inr ⟨rfl, rfl⟩) (fun _ => by decide) (by decide) (by decide) e38 ?_
  refine gc_dup C (dat dt_X11_init_0 57 rfl) rfl ?_
  refine gc_bipush C (dat dt_X11_init_0 58 rfl) bp_8 ?_
  refine gc_bipush C (dat dt_X11_init_0 59 rfl) bp_101 ?_
  obtain ⟨c39, e40, hrun⟩ := bd hrun
  refine gc_ast (t := 1) (j := 8) C (dat dt_X11_init_1 0 rfl) (Or.inr ⟨rfl, rfl⟩) (fun _ => by decide) (by decide) (by decide) e40 ?_
  refine gc_dup C (dat dt_X11_init_1 1 rfl) rfl ?_
  refine gc_bipush C (dat dt_X11_init_1 2 rfl) bp_9 ?_
  refine gc_bipush C (dat dt_X11_init_1 3 rfl) bp_101 ?_
  obtain ⟨c41, e42, hrun⟩ := bd hrun
  refine gc_ast (t := 1) (j := 9) C (dat dt_X11_init_1 4 rfl) (Or.inr ⟨rfl, rfl⟩) (fun _ => by decide) (by decide) (by decide) e42 ?_
  refine gc_dup C (dat dt_X11_init_1 5 rfl) rfl ?_
  refine gc_bipush C (dat dt_X11_init_1 6 rfl) bp_10 ?_
  refine gc_bipush C (dat dt_X11_init_1 7 rfl) bp_112 ?_
  obtain ⟨c43, e44, hrun⟩ := bd hrun
  refine gc_ast (t := 1) (j := 10) C (dat dt_X11_init_1 8 rfl) (Or.inr ⟨rfl, rfl⟩) (fun _ => by decide) (by decide) (by decide) e44 ?_
  refine gc_dup C (dat dt_X11_init_1 9 rfl) rfl ?_
  refine gc_bipush C (dat dt_X11_init_1 10 rfl) bp_11 ?_
  refine gc_bipush C (dat dt_X11_init_1 11 rfl) bp_115 ?_
  obtain ⟨c45, e46, hrun⟩ := bd hrun
  refine gc_ast (t := 1) (j := 11) C (dat dt_X11_init_1 12 rfl) (Or.inr ⟨rfl, rfl⟩) (fun _ => by decide) (by decide) (by decide) e46 ?_
  refine gc_dup C (dat dt_X11_init_1 13 rfl) rfl ?_
  refine gc_bipush C (dat dt_X11_init_1 14 rfl) bp_12 ?_
  refine gc_bipush C (dat dt_X11_init_1 15 rfl) bp_32 ?_
  obtain ⟨c47, e48, hrun⟩ := bd hrun
  refine gc_ast (t := 1) (j := 12) C (dat dt_X11_init_1 16 rfl) (Or.inr ⟨rfl, rfl⟩) (fun _ => by decide) (by decide) (by decide) e48 ?_
  refine gc_dup C (dat dt_X11_init_1 17 rfl) rfl ?_
  refine gc_bipush C (dat dt_X11_init_1 18 rfl) bp_13 ?_
  refine gc_bipush C (dat dt_X11_init_1 19 rfl) bp_108 ?_
  obtain ⟨c49, e50, hrun⟩ := bd hrun
  refine gc_ast (t := 1) (j := 13) C (dat dt_X11_init_1 20 rfl) (Or.inr ⟨rfl, rfl⟩) (fun _ => by decide) (by decide) (by decide) e50 ?_
  refine gc_dup C (dat dt_X11_init_1 21 rfl) rfl ?_
  refine gc_bipush C (dat dt_X11_init_1 22 rfl) bp_14 ?_
  refine gc_bipush C (dat dt_X11_init_1 23 rfl) bp_101 ?_
  obtain ⟨c51, e52, hrun⟩ := bd hrun
  refine gc_ast (t := 1) (j := 14) C (dat dt_X11_init_1 24 rfl) (Or.inr ⟨rfl, rfl⟩) (fun _ => by decide) (by decide) (by decide) e52 ?_
  refine gc_dup C (dat dt_X11_init_1 25 rfl) rfl ?_
  refine gc_bipush C (dat dt_X11_init_1 26 rfl) bp_15 ?_
  refine gc_bipush C (dat dt_X11_init_1 27 rfl) bp_97 ?_
  obtain ⟨c53, e54, hrun⟩ := bd hrun
  refine gc_ast (t := 1) (j := 15) C (dat dt_X11_init_1 28 rfl) (Or.inr ⟨rfl, rfl⟩) (fun _ => by decide) (by decide) (by decide) e54 ?_
  refine gc_dup C (dat dt_X11_init_1 29 rfl) rfl ?_
  refine gc_bipush C (dat dt_X11_init_1 30 rfl) bp_16 ?_
  refine gc_bipush C (dat dt_X11_init_1 31 rfl) bp_118 ?_
  obtain ⟨c55, e56, hrun⟩ := bd hrun
  refine gc_ast (t := 1) (j := 16) C (dat dt_X11_init_1 32 rfl) (Or.inr ⟨rfl, rfl⟩) (fun _ => by decide) (by decide) (by decide) e56 ?_
  refine gc_dup C (dat dt_X11_init_1 33 rfl) rfl ?_
  refine gc_bipush C (dat dt_X11_init_1 34 rfl) bp_17 ?_
  refine gc_bipush C (dat dt_X11_init_1 35 rfl) bp_101 ?_
  obtain ⟨c57, e58, hrun⟩ := bd hrun
  refine gc_ast (t := 1) (j := 17) C (dat dt_X11_init_1 36 rfl) (Or.inr ⟨rfl, rfl⟩) (fun _ => by decide) (by decide) (by decide) e58 ?_
  refine gc_dup C (dat dt_X11_init_1 37 rfl) rfl ?_
  refine gc_bipush C (dat dt_X11_init_1 38 rfl) bp_18 ?_
  refine gc_bipush C (dat dt_X11_init_1 39 rfl) bp_115 ?_
  obtain ⟨c59, e60, hrun⟩ := bd hrun
  refine gc_ast (t := 1) (j := 18) C (dat dt_X11_init_1 40 rfl) (Or.inr ⟨rfl, rfl⟩) (fun _ => by decide) (by decide) (by decide) e60 ?_
  refine gc_dup C (dat dt_X11_init_1 41 rfl) rfl ?_
  refine gc_bipush C (dat dt_X11_init_1 42 rfl) bp_19 ?_
  refine gc_bipush C (dat dt_X11_init_1 43 rfl) bp_32 ?_
  obtain ⟨c61, e62, hrun⟩ := bd hrun
  refine gc_ast (t := 1) (j := 19) C (dat dt_X11_init_1 44 rfl) (Or.inr ⟨rfl, rfl⟩) (fun _ => by decide) (by decide) (by decide) e62 ?_
  refine gc_dup C (dat dt_X11_init_1 45 rfl) rfl ?_
  refine gc_bipush C (dat dt_X11_init_1 46 rfl) bp_20 ?_
  refine gc_bipush C (dat dt_X11_init_1 47 rfl) bp_105 ?_
  obtain ⟨c63, e64, hrun⟩ := bd hrun
  refine gc_ast (t := 1) (j := 20) C (dat dt_X11_init_1 48 rfl) (Or.inr ⟨rfl, rfl⟩) (fun _ => by decide) (by decide) (by decide) e64 ?_
  refine gc_dup C (dat dt_X11_init_1 49 rfl) rfl ?_
  refine gc_bipush C (dat dt_X11_init_1 50 rfl) bp_21 ?_
  refine gc_bipush C (dat dt_X11_init_1 51 rfl) bp_102 ?_
  obtain ⟨c65, e66, hrun⟩ := bd hrun
  refine gc_ast (t := 1) (j := 21) C (dat dt_X11_init_1 52 rfl) (Or.inr ⟨rfl, rfl⟩) (fun _ => by decide) (by decide) (by decide) e66 ?_
  refine gc_dup C (dat dt_X11_init_1 53 rfl) rfl ?_
  refine gc_bipush C (dat dt_X11_init_1 54 rfl) bp_22 ?_
  refine gc_bipush C (dat dt_X11_init_1 55 rfl) bp_32 ?_
  obtain ⟨c67, e68, hrun⟩ := bd hrun
  refine gc_ast (t := 1) (j := 22) C (dat dt_X11_init_1 56 rfl) (Or.inr ⟨rfl, rfl⟩) (fun _ => by decide) (by decide) (by decide) e68 ?_
  refine gc_dup C (dat dt_X11_init_1 57 rfl) rfl ?_
  refine gc_bipush C (dat dt_X11_init_1 58 rfl) bp_23 ?_
  refine gc_bipush C (dat dt_X11_init_1 59 rfl) bp_111 ?_
  obtain ⟨c69, e70, hrun⟩ := bd hrun
  refine gc_ast (t := 1) (j := 23) C (dat dt_X11_init_2 0 rfl) (Or.inr ⟨rfl, rfl⟩) (fun _ => by decide) (by decide) (by decide) e70 ?_
  refine gc_dup C (dat dt_X11_init_2 1 rfl) rfl ?_
  refine gc_bipush C (dat dt_X11_init_2 2 rfl) bp_24 ?_
  refine gc_bipush C (dat dt_X11_init_2 3 rfl) bp_114 ?_
  obtain ⟨c71, e72, hrun⟩ := bd hrun
  refine gc_ast (t := 1) (j := 24) C (dat dt_X11_init_2 4 rfl) (Or.inr ⟨rfl, rfl⟩) (fun _ => by decide) (by decide) (by decide) e72 ?_
  refine gc_dup C (dat dt_X11_init_2 5 rfl) rfl ?_
  refine gc_bipush C (dat dt_X11_init_2 6 rfl) bp_25 ?_
  refine gc_bipush C (dat dt_X11_init_2 7 rfl) bp_32 ?_
  obtain ⟨c73, e74, hrun⟩ := bd hrun
  refine gc_ast (t := 1) (j := 25) C (dat dt_X11_init_2 8 rfl) (Or.inr ⟨rfl, rfl⟩) (fun _ => by decide) (by decide) (by decide) e74 ?_
  refine gc_dup C (dat dt_X11_init_2 9 rfl) rfl ?_
  refine gc_bipush C (dat dt_X11_init_2 10 rfl) bp_26 ?_
  refine gc_bipush C (dat dt_X11_init_2 11 rfl) bp_97 ?_
  obtain ⟨c75, e76, hrun⟩ := bd hrun
  refine gc_ast (t := 1) (j := 26) C (dat dt_X11_init_2 12 rfl) (Or.inr ⟨rfl, rfl⟩) (fun _ => by decide) (by decide) (by decide) e76 ?_
  refine gc_dup C (dat dt_X11_init_2 13 rfl) rfl ?_
  refine gc_bipush C (dat dt_X11_init_2 14 rfl) bp_27 ?_
  refine gc_bipush C (dat dt_X11_init_2 15 rfl) bp_110 ?_
  obtain ⟨c77, e78, hrun⟩ := bd hrun
  refine gc_ast (t := 1) (j := 27) C (dat dt_X11_init_2 16 rfl) (Or.inr ⟨rfl, rfl⟩) (fun _ => by decide) (by decide) (by decide) e78 ?_
  refine gc_dup C (dat dt_X11_init_2 17 rfl) rfl ?_
  refine gc_bipush C (dat dt_X11_init_2 18 rfl) bp_28 ?_
  refine gc_bipush C (dat dt_X11_init_2 19 rfl) bp_100 ?_
  obtain ⟨c79, e80, hrun⟩ := bd hrun
  refine gc_ast (t := 1) (j := 28) C (dat dt_X11_init_2 20 rfl) (Or.inr ⟨rfl, rfl⟩) (fun _ => by decide) (by decide) (by decide) e80 ?_
  refine gc_dup C (dat dt_X11_init_2 21 rfl) rfl ?_
  refine gc_bipush C (dat dt_X11_init_2 22 rfl) bp_29 ?_
  refine gc_bipush C (dat dt_X11_init_2 23 rfl) bp_32 ?_
  obtain ⟨c81, e82, hrun⟩ := bd hrun
  refine gc_ast (t := 1) (j := 29) C (dat dt_X11_init_2 24 rfl) (Or.inr ⟨rfl, rfl⟩) (fun _ => by decide) (by decide) (by decide) e82 ?_
  refine gc_dup C (dat dt_X11_init_2 25 rfl) rfl ?_
  refine gc_bipush C (dat dt_X11_init_2 26 rfl) bp_30 ?_
  refine gc_bipush C (dat dt_X11_init_2 27 rfl) bp_110 ?_
  obtain ⟨c83, e84, hrun⟩ := bd hrun
  refine gc_ast (t := 1) (j := 30) C (dat dt_X11_init_2 28 rfl) (Or.inr ⟨rfl, rfl⟩) (fun _ => by decide) (by decide) (by decide) e84 ?_
  refine gc_dup C (dat dt_X11_init_2 29 rfl) rfl ?_
  refine gc_bipush C (dat dt_X11_init_2 30 rfl) bp_31 ?_
  refine gc_bipush C (dat dt_X11_init_2 31 rfl) bp_111 ?_
  obtain ⟨c85, e86, hrun⟩ := bd hrun
  refine gc_ast (t := 1) (j := 31) C (dat dt_X11_init_2 32 rfl) (Or.inr ⟨rfl, rfl⟩) (fun _ => by decide) (by decide) (by decide) e86 ?_
  refine gc_dup C (dat dt_X11_init_2 33 rfl) rfl ?_
  refine gc_bipush C (dat dt_X11_init_2 34 rfl) bp_32 ?_
  refine gc_bipush C (dat dt_X11_init_2 35 rfl) bp_116 ?_
  obtain ⟨c87, e88, hrun⟩ := bd hrun
  refine gc_ast (t := 1) (j := 32) C (dat dt_X11_init_2 36 rfl) (Or.inr ⟨rfl, rfl⟩) (fun _ => by decide) (by decide) (by decide) e88 ?_
  refine gc_dup C (dat dt_X11_init_2 37 rfl) rfl ?_
  refine gc_bipush C (dat dt_X11_init_2 38 rfl) bp_33 ?_
  refine gc_bipush C (dat dt_X11_init_2 39 rfl) bp_32 ?_
  obtain ⟨c89, e90, hrun⟩ := bd hrun
  refine gc_ast (t := 1) (j := 33) C (dat dt_X11_init_2 40 rfl) (Or.inr ⟨rfl, rfl⟩) (fun _ => by decide) (by decide) (by decide) e90 ?_
  refine gc_dup C (dat dt_X11_init_2 41 rfl) rfl ?_
  refine gc_bipush C (dat dt_X11_init_2 42 rfl) bp_34 ?_
  refine gc_bipush C (dat dt_X11_init_2 43 rfl) bp_115 ?_
  obtain ⟨c91, e92, hrun⟩ := bd hrun
  refine gc_ast (t := 1) (j := 34) C (dat dt_X11_init_2 44 rfl) (Or.inr ⟨rfl, rfl⟩) (fun _ => by decide) (by decide) (by decide) e92 ?_
  refine gc_dup C (dat dt_X11_init_2 45 rfl) rfl ?_
  refine gc_bipush C (dat dt_X11_init_2 46 rfl) bp_35 ?_
  refine gc_bipush C (dat dt_X11_init_2 47 rfl) bp_105 ?_
  obtain ⟨c93, e94, hrun⟩ := bd hrun
  refine gc_ast (t := 1) (j := 35) C (dat dt_X11_init_2 48 rfl) (Or.inr ⟨rfl, rfl⟩) (fun _ => by decide) (by decide) (by decide) e94 ?_
  refine gc_dup C (dat dt_X11_init_2 49 rfl) rfl ?_
  refine gc_bipush C (dat dt_X11_init_2 50 rfl) bp_36 ?_
  refine gc_bipush C (dat dt_X11_init_2 51 rfl) bp_116 ?_
  obtain ⟨c95, e96, hrun⟩ := bd hrun
  refine gc_ast (t := 1) (j := 36) C (dat dt_X11_init_2 52 rfl) (Or.inr ⟨rfl, rfl⟩) (fun _ => by decide) (by decide) (by decide) e96 ?_
  refine gc_dup C (dat dt_X11_init_2 53 rfl) rfl ?_
  refine gc_bipush C (dat dt_X11_init_2 54 rfl) bp_37 ?_
  refine gc_bipush C (dat dt_X11_init_2 55 rfl) bp_116 ?_
  obtain ⟨c97, e98, hrun⟩ := bd hrun
  refine gc_ast (t := 1) (j := 37) C (dat dt_X11_init_2 56 rfl) (Or.inr ⟨rfl, rfl⟩) (fun _ => by decide) (by decide) (by decide) e98 ?_
  refine gc_dup C (dat dt_X11_init_2 57 rfl) rfl ?_
  refine gc_bipush C (dat dt_X11_init_2 58 rfl) bp_38 ?_
  refine gc_bipush C (dat dt_X11_init_2 59 rfl) bp_101 ?_
  obtain ⟨c99, e100, hrun⟩ := bd hrun
  refine gc_ast (t := 1) (j := 38) C (dat dt_X11_init_3 0 rfl) (Or.inr ⟨rfl, rfl⟩) (fun _ => by decide) (by decide) (by decide) e100 ?_
  refine gc_dup C (dat dt_X11_init_3 1 rfl) rfl ?_
  refine gc_bipush C (dat dt_X11_init_3 2 rfl) bp_39 ?_
  refine gc_bipush C (dat dt_X11_init_3 3 rfl) bp_114 ?_
  obtain ⟨c101, e102, hrun⟩ := bd hrun
  refine gc_ast (t := 1) (j := 39) C (dat dt_X11_init_3 4 rfl) (Or.inr ⟨rfl, rfl⟩) (fun _ => by decide) (by decide) (by decide) e102 ?_
  refine gc_dup C (dat dt_X11_init_3 5 rfl) rfl ?_
  refine gc_bipush C (dat dt_X11_init_3 6 rfl) bp_40 ?_
  refine gc_bipush C (dat dt_X11_init_3 7 rfl) bp_32 ?_
  obtain ⟨c103, e104, hrun⟩ := bd hrun
  refine gc_ast (t := 1) (j := 40) C (dat dt_X11_init_3 8 rfl) (Or.inr ⟨rfl, rfl⟩) (fun _ => by decide) (by decide) (by decide) e104 ?_
  refine gc_dup C (dat dt_X11_init_3 9 rfl) rfl ?_
  refine gc_bipush C (dat dt_X11_init_3 10 rfl) bp_41 ?_
  refine gc_bipush C (dat dt_X11_init_3 11 rfl) bp_111 ?_
  obtain ⟨c105, e106, hrun⟩ := bd hrun
  refine gc_ast (t := 1) (j := 41) C (dat dt_X11_init_3 12 rfl) (Or.inr ⟨rfl, rfl⟩) (fun _ => by decide) (by decide) (by decide) e106 ?_
  refine gc_dup C (dat dt_X11_init_3 13 rfl) rfl ?_
  refine gc_bipush C (dat dt_X11_init_3 14 rfl) bp_42 ?_
  refine gc_bipush C (dat dt_X11_init_3 15 rfl) bp_116 ?_
  obtain ⟨c107, e108, hrun⟩ := bd hrun
  refine gc_ast (t := 1) (j := 42) C (dat dt_X11_init_3 16 rfl) (Or.inr ⟨rfl, rfl⟩) (fun _ => by decide) (by decide) (by decide) e108 ?_
  refine gc_dup C (dat dt_X11_init_3 17 rfl) rfl ?_
  refine gc_bipush C (dat dt_X11_init_3 18 rfl) bp_43 ?_
  refine gc_bipush C (dat dt_X11_init_3 19 rfl) bp_104 ?_
  obtain ⟨c109, e110, hrun⟩ := bd hrun
  refine gc_ast (t := 1) (j := 43) C (dat dt_X11_init_3 20 rfl) (Or.inr ⟨rfl, rfl⟩) (fun _ => by decide) (by decide) (by decide) e110 ?_
  refine gc_dup C (dat dt_X11_init_3 21 rfl) rfl ?_
  refine gc_bipush C (dat dt_X11_init_3 22 rfl) bp_44 ?_
  refine gc_bipush C (dat dt_X11_init_3 23 rfl) bp_101 ?_
  obtain ⟨c111, e112, hrun⟩ := bd hrun
  refine gc_ast (t := 1) (j := 44) C (dat dt_X11_init_3 24 rfl) (Or.inr ⟨rfl, rfl⟩) (fun _ => by decide) (by decide) (by decide) e112 ?_
  refine gc_dup C (dat dt_X11_init_3 25 rfl) rfl ?_
  refine gc_bipush C (dat dt_X11_init_3 26 rfl) bp_45 ?_
  refine gc_bipush C (dat dt_X11_init_3 27 rfl) bp_114 ?_
  obtain ⟨c113, e114, hrun⟩ := bd hrun
  refine gc_ast (t := 1) (j := 45) C (dat dt_X11_init_3 28 rfl) (Or.inr ⟨rfl, rfl⟩) (fun _ => by decide) (by decide) (by decide) e114 ?_
  refine gc_dup C (dat dt_X11_init_3 29 rfl) rfl ?_
  refine gc_bipush C (dat dt_X11_init_3 30 rfl) bp_46 ?_
  refine gc_bipush C (dat dt_X11_init_3 31 rfl) bp_32 ?_
  obtain ⟨c115, e116, hrun⟩ := bd hrun
  refine gc_ast (t := 1) (j := 46) C (dat dt_X11_init_3 32 rfl) (Or.inr ⟨rfl, rfl⟩) (fun _ => by decide) (by decide) (by decide) e116 ?_
  refine gc_dup C (dat dt_X11_init_3 33 rfl) rfl ?_
  refine gc_bipush C (dat dt_X11_init_3 34 rfl) bp_47 ?_
  refine gc_bipush C (dat dt_X11_init_3 35 rfl) bp_116 ?_
  obtain ⟨c117, e118, hrun⟩ := bd hrun
  refine gc_ast (t := 1) (j := 47) C (dat dt_X11_init_3 36 rfl) (Or.inr ⟨rfl, rfl⟩) (fun _ => by decide) (by decide) (by decide) e118 ?_
  refine gc_dup C (dat dt_X11_init_3 37 rfl) rfl ?_
  refine gc_bipush C (dat dt_X11_init_3 38 rfl) bp_48 ?_
  refine gc_bipush C (dat dt_X11_init_3 39 rfl) bp_105 ?_
  obtain ⟨c119, e120, hrun⟩ := bd hrun
  refine gc_ast (t := 1) (j := 48) C (dat dt_X11_init_3 40 rfl) (Or.inr ⟨rfl, rfl⟩) (fun _ => by decide) (by decide) (by decide) e120 ?_
  refine gc_dup C (dat dt_X11_init_3 41 rfl) rfl ?_
  refine gc_bipush C (dat dt_X11_init_3 42 rfl) bp_49 ?_
  refine gc_bipush C (dat dt_X11_init_3 43 rfl) bp_101 ?_
  obtain ⟨c121, e122, hrun⟩ := bd hrun
  refine gc_ast (t := 1) (j := 49) C (dat dt_X11_init_3 44 rfl) (Or.inr ⟨rfl, rfl⟩) (fun _ => by decide) (by decide) (by decide) e122 ?_
  refine gc_dup C (dat dt_X11_init_3 45 rfl) rfl ?_
  refine gc_bipush C (dat dt_X11_init_3 46 rfl) bp_50 ?_
  refine gc_bipush C (dat dt_X11_init_3 47 rfl) bp_114 ?_
  obtain ⟨c123, e124, hrun⟩ := bd hrun
  refine gc_ast (t := 1) (j := 50) C (dat dt_X11_init_3 48 rfl) (Or.inr ⟨rfl, rfl⟩) (fun _ => by decide) (by decide) (by decide) e124 ?_
  refine gc_dup C (dat dt_X11_init_3 49 rfl) rfl ?_
  refine gc_bipush C (dat dt_X11_init_3 50 rfl) bp_51 ?_
  refine gc_bipush C (dat dt_X11_init_3 51 rfl) bp_32 ?_
  obtain ⟨c125, e126, hrun⟩ := bd hrun
  refine gc_ast (t := 1) (j := 51) C (dat dt_X11_init_3 52 rfl) (Or.inr ⟨rfl, rfl⟩) (fun _ => by decide) (by decide) (by decide) e126 ?_
  refine gc_dup C (dat dt_X11_init_3 53 rfl) rfl ?_
  refine gc_bipush C (dat dt_X11_init_3 54 rfl) bp_52 ?_
  refine gc_bipush C (dat dt_X11_init_3 55 rfl) bp_110 ?_
  obtain ⟨c127, e128, hrun⟩ := bd hrun
  refine gc_ast (t := 1) (j := 52) C (dat dt_X11_init_3 56 rfl) (Or.inr ⟨rfl, rfl⟩) (fun _ => by decide) (by decide) (by decide) e128 ?_
  refine gc_dup C (dat dt_X11_init_3 57 rfl) rfl ?_
  refine gc_bipush C (dat dt_X11_init_3 58 rfl) bp_53 ?_
  refine gc_bipush C (dat dt_X11_init_3 59 rfl) bp_97 ?_
  obtain ⟨c129, e130, hrun⟩ := bd hrun
  refine gc_ast (t := 1) (j := 53) C (dat dt_X11_init_4 0 rfl) (Or.inr ⟨rfl, rfl⟩) (fun _ => by decide) (by decide) (by decide) e130 ?_
  refine gc_dup C (dat dt_X11_init_4 1 rfl) rfl ?_
  refine gc_bipush C (dat dt_X11_init_4 2 rfl) bp_54 ?_
  refine gc_bipush C (dat dt_X11_init_4 3 rfl) bp_116 ?_
  obtain ⟨c131, e132, hrun⟩ := bd hrun
  refine gc_ast (t := 1) (j := 54) C (dat dt_X11_init_4 4 rfl) (Or.inr ⟨rfl, rfl⟩) (fun _ => by decide) (by decide) (by decide) e132 ?_
  refine gc_dup C (dat dt_X11_init_4 5 rfl) rfl ?_
  refine gc_bipush C (dat dt_X11_init_4 6 rfl) bp_55 ?_
  refine gc_bipush C (dat dt_X11_init_4 7 rfl) bp_105 ?_
  obtain ⟨c133, e134, hrun⟩ := bd hrun
  refine gc_ast (t := 1) (j := 55) C (dat dt_X11_init_4 8 rfl) (Or.inr ⟨rfl, rfl⟩) (fun _ => by decide) (by decide) (by decide) e134 ?_
  refine gc_dup C (dat dt_X11_init_4 9 rfl) rfl ?_
  refine gc_bipush C (dat dt_X11_init_4 10 rfl) bp_56 ?_
  refine gc_bipush C (dat dt_X11_init_4 11 rfl) bp_111 ?_
  obtain ⟨c135, e136, hrun⟩ := bd hrun
  refine gc_ast (t := 1) (j := 56) C (dat dt_X11_init_4 12 rfl) (Or.inr ⟨rfl, rfl⟩) (fun _ => by decide) (by decide) (by decide) e136 ?_
  refine gc_dup C (dat dt_X11_init_4 13 rfl) rfl ?_
  refine gc_bipush C (dat dt_X11_init_4 14 rfl) bp_57 ?_
  refine gc_bipush C (dat dt_X11_init_4 15 rfl) bp_110 ?_
  obtain ⟨c137, e138, hrun⟩ := bd hrun
  refine gc_ast (t := 1) (j := 57) C (dat dt_X11_init_4 16 rfl) (Or.inr ⟨rfl, rfl⟩) (fun _ => by decide) (by decide) (by decide) e138 ?_
  refine gc_dup C (dat dt_X11_init_4 17 rfl) rfl ?_
  refine gc_bipush C (dat dt_X11_init_4 18 rfl) bp_58 ?_
  refine gc_bipush C (dat dt_X11_init_4 19 rfl) bp_32 ?_
  obtain ⟨c139, e140, hrun⟩ := bd hrun
  refine gc_ast (t := 1) (j := 58) C (dat dt_X11_init_4 20 rfl) (Or.inr ⟨rfl, rfl⟩) (fun _ => by decide) (by decide) (by decide) e140 ?_
  refine gc_dup C (dat dt_X11_init_4 21 rfl) rfl ?_
  refine gc_bipush C (dat dt_X11_init_4 22 rfl) bp_59 ?_
  refine gc_bipush C (dat dt_X11_init_4 23 rfl) bp_119 ?_
  obtain ⟨c141, e142, hrun⟩ := bd hrun
  refine gc_ast (t := 1) (j := 59) C (dat dt_X11_init_4 24 rfl) (Or.inr ⟨rfl, rfl⟩) (fun _ => by decide) (by decide) (by decide) e142 ?_
  refine gc_dup C (dat dt_X11_init_4 25 rfl) rfl ?_
  refine gc_bipush C (dat dt_X11_init_4 26 rfl) bp_60 ?_
  refine gc_bipush C (dat dt_X11_init_4 27 rfl) bp_105 ?_
  obtain ⟨c143, e144, hrun⟩ := bd hrun
  refine gc_ast (t := 1) (j := 60) C (dat dt_X11_init_4 28 rfl) (Or.inr ⟨rfl, rfl⟩) (fun _ => by decide) (by decide) (by decide) e144 ?_
  refine gc_dup C (dat dt_X11_init_4 29 rfl) rfl ?_
  refine gc_bipush C (dat dt_X11_init_4 30 rfl) bp_61 ?_
  refine gc_bipush C (dat dt_X11_init_4 31 rfl) bp_115 ?_
  obtain ⟨c145, e146, hrun⟩ := bd hrun
  refine gc_ast (t := 1) (j := 61) C (dat dt_X11_init_4 32 rfl) (Or.inr ⟨rfl, rfl⟩) (fun _ => by decide) (by decide) (by decide) e146 ?_
  refine gc_dup C (dat dt_X11_init_4 33 rfl) rfl ?_
  refine gc_bipush C (dat dt_X11_init_4 34 rfl) bp_62 ?_
  refine gc_bipush C (dat dt_X11_init_4 35 rfl) bp_104 ?_
  obtain ⟨c147, e148, hrun⟩ := bd hrun
  refine gc_ast (t := 1) (j := 62) C (dat dt_X11_init_4 36 rfl) (Or.inr ⟨rfl, rfl⟩) (fun _ => by decide) (by decide) (by decide) e148 ?_
  refine gc_dup C (dat dt_X11_init_4 37 rfl) rfl ?_
  refine gc_bipush C (dat dt_X11_init_4 38 rfl) bp_63 ?_
  refine gc_bipush C (dat dt_X11_init_4 39 rfl) bp_32 ?_
  obtain ⟨c149, e150, hrun⟩ := bd hrun
  refine gc_ast (t := 1) (j := 63) C (dat dt_X11_init_4 40 rfl) (Or.inr ⟨rfl, rfl⟩) (fun _ => by decide) (by decide) (by decide) e150 ?_
  refine gc_dup C (dat dt_X11_init_4 41 rfl) rfl ?_
  refine gc_bipush C (dat dt_X11_init_4 42 rfl) bp_64 ?_
  refine gc_bipush C (dat dt_X11_init_4 43 rfl) bp_109 ?_
  obtain ⟨c151, e152, hrun⟩ := bd hrun
  refine gc_ast (t := 1) (j := 64) C (dat dt_X11_init_4 44 rfl) (Or.inr ⟨rfl, rfl⟩) (fun _ => by decide) (by decide) (by decide) e152 ?_
  refine gc_dup C (dat dt_X11_init_4 45 rfl) rfl ?_
  refine gc_bipush C (dat dt_X11_init_4 46 rfl) bp_65 ?_
  refine gc_bipush C (dat dt_X11_init_4 47 rfl) bp_111 ?_
  obtain ⟨c153, e154, hrun⟩ := bd hrun
  refine gc_ast (t := 1) (j := 65) C (dat dt_X11_init_4 48 rfl) (Or.inr ⟨rfl, rfl⟩) (fun _ => by decide) (by decide) (by decide) e154 ?_
  refine gc_dup C (dat dt_X11_init_4 49 rfl) rfl ?_
  refine gc_bipush C (dat dt_X11_init_4 50 rfl) bp_66 ?_
  refine gc_bipush C (dat dt_X11_init_4 51 rfl) bp_111 ?_
  obtain ⟨c155, e156, hrun⟩ := bd hrun
  refine gc_ast (t := 1) (j := 66) C (dat dt_X11_init_4 52 rfl) (Or.inr ⟨rfl, rfl⟩) (fun _ => by decide) (by decide) (by decide) e156 ?_
  refine gc_dup C (dat dt_X11_init_4 53 rfl) rfl ?_
  refine gc_bipush C (dat dt_X11_init_4 54 rfl) bp_67 ?_
  refine gc_bipush C (dat dt_X11_init_4 55 rfl) bp_100 ?_
  obtain ⟨c157, e158, hrun⟩ := bd hrun
  refine gc_ast (t := 1) (j := 67) C (dat dt_X11_init_4 56 rfl) (Or.inr ⟨rfl, rfl⟩) (fun _ => by decide) (by decide) (by decide) e158 ?_
  refine gc_dup C (dat dt_X11_init_4 57 rfl) rfl ?_
  refine gc_bipush C (dat dt_X11_init_4 58 rfl) bp_68 ?_
  refine gc_bipush C (dat dt_X11_init_4 59 rfl) bp_32 ?_
  obtain ⟨c159, e160, hrun⟩ := bd hrun
  refine gc_ast (t := 1) (j := 68) C (dat dt_X11_init_5 0 rfl) (Or.inr ⟨rfl, rfl⟩) (fun _ => by decide) (by decide) (by decide) e160 ?_
  refine gc_dup C (dat dt_X11_init_5 1 rfl) rfl ?_
  refine gc_bipush C (dat dt_X11_init_5 2 rfl) bp_69 ?_
  refine gc_bipush C (dat dt_X11_init_5 3 rfl) bp_109 ?_
  obtain ⟨c161, e162, hrun⟩ := bd hrun
  refine gc_ast (t := 1) (j := 69) C (dat dt_X11_init_5 4 rfl) (Or.inr ⟨rfl, rfl⟩) (fun _ => by decide) (by decide) (by decide) e162 ?_
  refine gc_dup C (dat dt_X11_init_5 5 rfl) rfl ?_
  refine gc_bipush C (dat dt_X11_init_5 6 rfl) bp_70 ?_
  refine gc_bipush C (dat dt_X11_init_5 7 rfl) bp_117 ?_
  obtain ⟨c163, e164, hrun⟩ := bd hrun
  refine gc_ast (t := 1) (j := 70) C (dat dt_X11_init_5 8 rfl) (Or.inr ⟨rfl, rfl⟩) (fun _ => by decide) (by decide) (by decide) e164 ?_
  refine gc_dup C (dat dt_X11_init_5 9 rfl) rfl ?_
  refine gc_bipush C (dat dt_X11_init_5 10 rfl) bp_71 ?_
  refine gc_bipush C (dat dt_X11_init_5 11 rfl) bp_99 ?_
  obtain ⟨c165, e166, hrun⟩ := bd hrun
  refine gc_ast (t := 1) (j := 71) C (dat dt_X11_init_5 12 rfl) (Or.inr ⟨rfl, rfl⟩) (fun _ => by decide) (by decide) (by decide) e166 ?_
  refine gc_dup C (dat dt_X11_init_5 13 rfl) rfl ?_
  refine gc_bipush C (dat dt_X11_init_5 14 rfl) bp_72 ?_
  refine gc_bipush C (dat dt_X11_init_5 15 rfl) bp_104 ?_
  obtain ⟨c167, e168, hrun⟩ := bd hrun
  refine gc_ast (t := 1) (j := 72) C (dat dt_X11_init_5 16 rfl) (Or.inr ⟨rfl, rfl⟩) (fun _ => by decide) (by decide) (by decide) e168 ?_
  refine gc_dup C (dat dt_X11_init_5 17 rfl) rfl ?_
  refine gc_bipush C (dat dt_X11_init_5 18 rfl) bp_73 ?_
  refine gc_bipush C (dat dt_X11_init_5 19 rfl) bp_32 ?_
  obtain ⟨c169, e170, hrun⟩ := bd hrun
  refine gc_ast (t := 1) (j := 73) C (dat dt_X11_init_5 20 rfl) (Or.inr ⟨rfl, rfl⟩) (fun _ => by decide) (by decide) (by decide) e170 ?_
  refine gc_dup C (dat dt_X11_init_5 21 rfl) rfl ?_
  refine gc_bipush C (dat dt_X11_init_5 22 rfl) bp_74 ?_
  refine gc_bipush C (dat dt_X11_init_5 23 rfl) bp_109 ?_
  obtain ⟨c171, e172, hrun⟩ := bd hrun
  refine gc_ast (t := 1) (j := 74) C (dat dt_X11_init_5 24 rfl) (Or.inr ⟨rfl, rfl⟩) (fun _ => by decide) (by decide) (by decide) e172 ?_
  refine gc_dup C (dat dt_X11_init_5 25 rfl) rfl ?_
  refine gc_bipush C (dat dt_X11_init_5 26 rfl) bp_75 ?_
  refine gc_bipush C (dat dt_X11_init_5 27 rfl) bp_105 ?_
  obtain ⟨c173, e174, hrun⟩ := bd hrun
  refine gc_ast (t := 1) (j := 75) C (dat dt_X11_init_5 28 rfl) (Or.inr ⟨rfl, rfl⟩) (fun _ => by decide) (by decide) (by decide) e174 ?_
  refine gc_dup C (dat dt_X11_init_5 29 rfl) rfl ?_
  refine gc_bipush C (dat dt_X11_init_5 30 rfl) bp_76 ?_
  refine gc_bipush C (dat dt_X11_init_5 31 rfl) bp_110 ?_
  obtain ⟨c175, e176, hrun⟩ := bd hrun
  refine gc_ast (t := 1) (j := 76) C (dat dt_X11_init_5 32 rfl) (Or.inr ⟨rfl, rfl⟩) (fun _ => by decide) (by decide) (by decide) e176 ?_
  refine gc_dup C (dat dt_X11_init_5 33 rfl) rfl ?_
  refine gc_bipush C (dat dt_X11_init_5 34 rfl) bp_77 ?_
  refine gc_bipush C (dat dt_X11_init_5 35 rfl) bp_117 ?_
  obtain ⟨c177, e178, hrun⟩ := bd hrun
  refine gc_ast (t := 1) (j := 77) C (dat dt_X11_init_5 36 rfl) (Or.inr ⟨rfl, rfl⟩) (fun _ => by decide) (by decide) (by decide) e178 ?_
  refine gc_dup C (dat dt_X11_init_5 37 rfl) rfl ?_
  refine gc_bipush C (dat dt_X11_init_5 38 rfl) bp_78 ?_
  refine gc_bipush C (dat dt_X11_init_5 39 rfl) bp_116 ?_
  obtain ⟨c179, e180, hrun⟩ := bd hrun
  refine gc_ast (t := 1) (j := 78) C (dat dt_X11_init_5 40 rfl) (Or.inr ⟨rfl, rfl⟩) (fun _ => by decide) (by decide) (by decide) e180 ?_
  refine gc_dup C (dat dt_X11_init_5 41 rfl) rfl ?_
  refine gc_bipush C (dat dt_X11_init_5 42 rfl) bp_79 ?_
  refine gc_bipush C (dat dt_X11_init_5 43 rfl) bp_101 ?_
  obtain ⟨c181, e182, hrun⟩ := bd hrun
  refine gc_ast (t := 1) (j := 79) C (dat dt_X11_init_5 44 rfl) (Or.inr ⟨rfl, rfl⟩) (fun _ => by decide) (by decide) (by decide) e182 ?_
  refine gc_dup C (dat dt_X11_init_5 45 rfl) rfl ?_
  refine gc_bipush C (dat dt_X11_init_5 46 rfl) bp_80 ?_
  refine gc_bipush C (dat dt_X11_init_5 47 rfl) bp_32 ?_
  obtain ⟨c183, e184, hrun⟩ := bd hrun
  refine gc_ast (t := 1) (j := 80) C (dat dt_X11_init_5 48 rfl) (Or.inr ⟨rfl, rfl⟩) (fun _ => by decide) (by decide) (by decide) e184 ?_
  refine gc_dup C (dat dt_X11_init_5 49 rfl) rfl ?_
  refine gc_bipush C (dat dt_X11_init_5 50 rfl) bp_81 ?_
  refine gc_bipush C (dat dt_X11_init_5 51 rfl) bp_100 ?_
  obtain ⟨c185, e186, hrun⟩ := bd hrun
  refine gc_ast (t := 1) (j := 81) C (dat dt_X11_init_5 52 rfl) (Or.inr ⟨rfl, rfl⟩) (fun _ => by decide) (by decide) (by decide) e186 ?_
  refine gc_dup C (dat dt_X11_init_5 53 rfl) rfl ?_
  refine gc_bipush C (dat dt_X11_init_5 54 rfl) bp_82 ?_
  refine gc_bipush C (dat dt_X11_init_5 55 rfl) bp_111 ?_
  obtain ⟨c187, e188, hrun⟩ := bd hrun
  refine gc_ast (t := 1) (j := 82) C (dat dt_X11_init_5 56 rfl) (Or.inr ⟨rfl, rfl⟩) (fun _ => by decide) (by decide) (by decide) e188 ?_
  refine gc_dup C (dat dt_X11_init_5 57 rfl) rfl ?_
  refine gc_bipush C (dat dt_X11_init_5 58 rfl) bp_83 ?_
  refine gc_bipush C (dat dt_X11_init_5 59 rfl) bp_110 ?_
  obtain ⟨c189, e190, hrun⟩ := bd hrun
  refine gc_ast (t := 1) (j := 83) C (dat dt_X11_init_6 0 rfl) (Or.inr ⟨rfl, rfl⟩) (fun _ => by decide) (by decide) (by decide) e190 ?_
  refine gc_dup C (dat dt_X11_init_6 1 rfl) rfl ?_
  refine gc_bipush C (dat dt_X11_init_6 2 rfl) bp_84 ?_
  refine gc_bipush C (dat dt_X11_init_6 3 rfl) bp_101 ?_
  obtain ⟨c191, e192, hrun⟩ := bd hrun
  refine gc_ast (t := 1) (j := 84) C (dat dt_X11_init_6 4 rfl) (Or.inr ⟨rfl, rfl⟩) (fun _ => by decide) (by decide) (by decide) e192 ?_
  refine gc_dup C (dat dt_X11_init_6 5 rfl) rfl ?_
  refine gc_bipush C (dat dt_X11_init_6 6 rfl) bp_85 ?_
  refine gc_bipush C (dat dt_X11_init_6 7 rfl) bp_32 ?_
  obtain ⟨c193, e194, hrun⟩ := bd hrun
  refine gc_ast (t := 1) (j := 85) C (dat dt_X11_init_6 8 rfl) (Or.inr ⟨rfl, rfl⟩) (fun _ => by decide) (by decide) (by decide) e194 ?_
  refine gc_dup C (dat dt_X11_init_6 9 rfl) rfl ?_
  refine gc_bipush C (dat dt_X11_init_6 10 rfl) bp_86 ?_
  refine gc_bipush C (dat dt_X11_init_6 11 rfl) bp_108 ?_
  obtain ⟨c195, e196, hrun⟩ := bd hrun
  refine gc_ast (t := 1) (j := 86) C (dat dt_X11_init_6 12 rfl) (Or.inr ⟨rfl, rfl⟩) (fun _ => by decide) (by decide) (by decide) e196 ?_
  refine gc_dup C (dat dt_X11_init_6 13 rfl) rfl ?_
  refine gc_bipush C (dat dt_X11_init_6 14 rfl) bp_87 ?_
  refine gc_bipush C (dat dt_X11_init_6 15 rfl) bp_97 ?_
  obtain ⟨c197, e198, hrun⟩ := bd hrun
  refine gc_ast (t := 1) (j := 87) C (dat dt_X11_init_6 16 rfl) (Or.inr ⟨rfl, rfl⟩) (fun _ => by decide) (by decide) (by decide) e198 ?_
  refine gc_dup C (dat dt_X11_init_6 17 rfl) rfl ?_
  refine gc_bipush C (dat dt_X11_init_6 18 rfl) bp_88 ?_
  refine gc_bipush C (dat dt_X11_init_6 19 rfl) bp_116 ?_
  obtain ⟨c199, e200, hrun⟩ := bd hrun
  refine gc_ast (t := 1) (j := 88) C (dat dt_X11_init_6 20 rfl) (Or.inr ⟨rfl, rfl⟩) (fun _ => by decide) (by decide) (by decide) e200 ?_
  refine gc_dup C (dat dt_X11_init_6 21 rfl) rfl ?_
  refine gc_bipush C (dat dt_X11_init_6 22 rfl) bp_89 ?_
  refine gc_bipush C (dat dt_X11_init_6 23 rfl) bp_101 ?_
  obtain ⟨c201, e202, hrun⟩ := bd hrun
  refine gc_ast (t := 1) (j := 89) C (dat dt_X11_init_6 24 rfl) (Or.inr ⟨rfl, rfl⟩) (fun _ => by decide) (by decide) (by decide) e202 ?_
  refine gc_dup C (dat dt_X11_init_6 25 rfl) rfl ?_
  refine gc_bipush C (dat dt_X11_init_6 26 rfl) bp_90 ?_
  refine gc_bipush C (dat dt_X11_init_6 27 rfl) bp_115 ?_
  obtain ⟨c203, e204, hrun⟩ := bd hrun
  refine gc_ast (t := 1) (j := 90) C (dat dt_X11_init_6 28 rfl) (Or.inr ⟨rfl, rfl⟩) (fun _ => by decide) (by decide) (by decide) e204 ?_
  refine gc_dup C (dat dt_X11_init_6 29 rfl) rfl ?_
  refine gc_bipush C (dat dt_X11_init_6 30 rfl) bp_91 ?_
  refine gc_bipush C (dat dt_X11_init_6 31 rfl) bp_116 ?_
  obtain ⟨c205, e206, hrun⟩ := bd hrun
  refine gc_ast (t := 1) (j := 91) C (dat dt_X11_init_6 32 rfl) (Or.inr ⟨rfl, rfl⟩) (fun _ => by decide) (by decide) (by decide) e206 ?_
  refine gc_dup C (dat dt_X11_init_6 33 rfl) rfl ?_
  refine gc_bipush C (dat dt_X11_init_6 34 rfl) bp_92 ?_
  refine gc_bipush C (dat dt_X11_init_6 35 rfl) bp_32 ?_
  obtain ⟨c207, e208, hrun⟩ := bd hrun
  refine gc_ast (t := 1) (j := 92) C (dat dt_X11_init_6 36 rfl) (Or.inr ⟨rfl, rfl⟩) (fun _ => by decide) (by decide) (by decide) e208 ?_
  refine gc_dup C (dat dt_X11_init_6 37 rfl) rfl ?_
  refine gc_bipush C (dat dt_X11_init_6 38 rfl) bp_93 ?_
  refine gc_bipush C (dat dt_X11_init_6 39 rfl) bp_105 ?_
  obtain ⟨c209, e210, hrun⟩ := bd hrun
  refine gc_ast (t := 1) (j := 93) C (dat dt_X11_init_6 40 rfl) (Or.inr ⟨rfl, rfl⟩) (fun _ => by decide) (by decide) (by decide) e210 ?_
  refine gc_dup C (dat dt_X11_init_6 41 rfl) rfl ?_
  refine gc_bipush C (dat dt_X11_init_6 42 rfl) bp_94 ?_
  refine gc_bipush C (dat dt_X11_init_6 43 rfl) bp_110 ?_
  obtain ⟨c211, e212, hrun⟩ := bd hrun
  refine gc_ast (t := 1) (j := 94) C (dat dt_X11_init_6 44 rfl) (Or.inr ⟨rfl, rfl⟩) (fun _ => by decide) (by decide) (by decide) e212 ?_
  refine gc_dup C (dat dt_X11_init_6 45 rfl) rfl ?_
  refine gc_bipush C (dat dt_X11_init_6 46 rfl) bp_95 ?_
  refine gc_bipush C (dat dt_X11_init_6 47 rfl) bp_115 ?_
  obtain ⟨c213, e214, hrun⟩ := bd hrun
  refine gc_ast (t := 1) (j := 95) C (dat dt_X11_init_6 48 rfl) (Or.inr ⟨rfl, rfl⟩) (fun _ => by decide) (by decide) (by decide) e214 ?_
  refine gc_dup C (dat dt_X11_init_6 49 rfl) rfl ?_
  refine gc_bipush C (dat dt_X11_init_6 50 rfl) bp_96 ?_
  refine gc_bipush C (dat dt_X11_init_6 51 rfl) bp_105 ?_
  obtain ⟨c215, e216, hrun⟩ := bd hrun
  refine gc_ast (t := 1) (j := 96) C (dat dt_X11_init_6 52 rfl) (Or.inr ⟨rfl, rfl⟩) (fun _ => by decide) (by decide) (by decide) e216 ?_
  refine gc_dup C (dat dt_X11_init_6 53 rfl) rfl ?_
  refine gc_bipush C (dat dt_X11_init_6 54 rfl) bp_97 ?_
  refine gc_bipush C (dat dt_X11_init_6 55 rfl) bp_100 ?_
  obtain ⟨c217, e218, hrun⟩ := bd hrun
  refine gc_ast (t := 1) (j := 97) C (dat dt_X11_init_6 56 rfl) (Or.inr ⟨rfl, rfl⟩) (fun _ => by decide) (by decide) (by decide) e218 ?_
  refine gc_dup C (dat dt_X11_init_6 57 rfl) rfl ?_
  refine gc_bipush C (dat dt_X11_init_6 58 rfl) bp_98 ?_
  refine gc_bipush C (dat dt_X11_init_6 59 rfl) bp_101 ?_
  obtain ⟨c219, e220, hrun⟩ := bd hrun
  refine gc_ast (t := 1) (j := 98) C (dat dt_X11_init_7 0 rfl) (Or.inr ⟨rfl, rfl⟩) (fun _ => by decide) (by decide) (by decide) e220 ?_
  refine gc_dup C (dat dt_X11_init_7 1 rfl) rfl ?_
  refine gc_bipush C (dat dt_X11_init_7 2 rfl) bp_99 ?_
  refine gc_bipush C (dat dt_X11_init_7 3 rfl) bp_32 ?_
  obtain ⟨c221, e222, hrun⟩ := bd hrun
  refine gc_ast (t := 1) (j := 99) C (dat dt_X11_init_7 4 rfl) (Or.inr ⟨rfl, rfl⟩) (fun _ => by decide) (by decide) (by decide) e222 ?_
  refine gc_dup C (dat dt_X11_init_7 5 rfl) rfl ?_
  refine gc_bipush C (dat dt_X11_init_7 6 rfl) bp_100 ?_
  refine gc_bipush C (dat dt_X11_init_7 7 rfl) bp_112 ?_
  obtain ⟨c223, e224, hrun⟩ := bd hrun
  refine gc_ast (t := 1) (j := 100) C (dat dt_X11_init_7 8 rfl) (Or.inr ⟨rfl, rfl⟩) (fun _ => by decide) (by decide) (by decide) e224 ?_
  refine gc_dup C (dat dt_X11_init_7 9 rfl) rfl ?_
  refine gc_bipush C (dat dt_X11_init_7 10 rfl) bp_101 ?_
  refine gc_bipush C (dat dt_X11_init_7 11 rfl) bp_108 ?_
  obtain ⟨c225, e226, hrun⟩ := bd hrun
  refine gc_ast (t := 1) (j := 101) C (dat dt_X11_init_7 12 rfl) (Or.inr ⟨rfl, rfl⟩) (fun _ => by decide) (by decide) (by decide) e226 ?_
  refine gc_dup C (dat dt_X11_init_7 13 rfl) rfl ?_
  refine gc_bipush C (dat dt_X11_init_7 14 rfl) bp_102 ?_
  refine gc_bipush C (dat dt_X11_init_7 15 rfl) bp_101 ?_
  obtain ⟨c227, e228, hrun⟩ := bd hrun
  refine gc_ast (t := 1) (j := 102) C (dat dt_X11_init_7 16 rfl) (Or.inr ⟨rfl, rfl⟩) (fun _ => by decide) (by decide) (by decide) e228 ?_
  refine gc_dup C (dat dt_X11_init_7 17 rfl) rfl ?_
  refine gc_bipush C (dat dt_X11_init_7 18 rfl) bp_103 ?_
  refine gc_bipush C (dat dt_X11_init_7 19 rfl) bp_97 ?_
  obtain ⟨c229, e230, hrun⟩ := bd hrun
  refine gc_ast (t := 1) (j := 103) C (dat dt_X11_init_7 20 rfl) (Or.inr ⟨rfl, rfl⟩) (fun _ => by decide) (by decide) (by decide) e230 ?_
  refine gc_dup C (dat dt_X11_init_7 21 rfl) rfl ?_
  refine gc_bipush C (dat dt_X11_init_7 22 rfl) bp_104 ?_
  refine gc_bipush C (dat dt_X11_init_7 23 rfl) bp_115 ?_
  obtain ⟨c231, e232, hrun⟩ := bd hrun
  refine gc_ast (t := 1) (j := 104) C (dat dt_X11_init_7 24 rfl) (Or.inr ⟨rfl, rfl⟩) (fun _ => by decide) (by decide) (by decide) e232 ?_
  refine gc_dup C (dat dt_X11_init_7 25 rfl) rfl ?_
  refine gc_bipush C (dat dt_X11_init_7 26 rfl) bp_105 ?_
  refine gc_bipush C (dat dt_X11_init_7 27 rfl) bp_101 ?_
  obtain ⟨c233, e234, hrun⟩ := bd hrun
  refine gc_ast (t := 1) (j := 105) C (dat dt_X11_init_7 28 rfl) (Or.inr ⟨rfl, rfl⟩) (fun _ => by decide) (by decide) (by decide) e234 ?_
  refine gc_dup C (dat dt_X11_init_7 29 rfl) rfl ?_
  refine gc_bipush C (dat dt_X11_init_7 30 rfl) bp_106 ?_
  refine gc_bipush C (dat dt_X11_init_7 31 rfl) bp_100 ?_
  obtain ⟨c235, e236, hrun⟩ := bd hrun
  refine gc_ast (t := 1) (j := 106) C (dat dt_X11_init_7 32 rfl) (Or.inr ⟨rfl, rfl⟩) (fun _ => by decide) (by decide) (by decide) e236 ?_
  refine gc_dup C (dat dt_X11_init_7 33 rfl) rfl ?_
  refine gc_bipush C (dat dt_X11_init_7 34 rfl) bp_107 ?_
  refine gc_bipush C (dat dt_X11_init_7 35 rfl) bp_32 ?_
  obtain ⟨c237, e238, hrun⟩ := bd hrun
  refine gc_ast (t := 1) (j := 107) C (dat dt_X11_init_7 36 rfl) (Or.inr ⟨rfl, rfl⟩) (fun _ => by decide) (by decide) (by decide) e238 ?_
  refine gc_dup C (dat dt_X11_init_7 37 rfl) rfl ?_
  refine gc_bipush C (dat dt_X11_init_7 38 rfl) bp_108 ?_
  refine gc_bipush C (dat dt_X11_init_7 39 rfl) bp_105 ?_
  obtain ⟨c239, e240, hrun⟩ := bd hrun
  refine gc_ast (t := 1) (j := 108) C (dat dt_X11_init_7 40 rfl) (Or.inr ⟨rfl, rfl⟩) (fun _ => by decide) (by decide) (by decide) e240 ?_
  refine gc_dup C (dat dt_X11_init_7 41 rfl) rfl ?_
  refine gc_bipush C (dat dt_X11_init_7 42 rfl) bp_109 ?_
  refine gc_bipush C (dat dt_X11_init_7 43 rfl) bp_115 ?_
  obtain ⟨c241, e242, hrun⟩ := bd hrun
  refine gc_ast (t := 1) (j := 109) C (dat dt_X11_init_7 44 rfl) (Or.inr ⟨rfl, rfl⟩) (fun _ => by decide) (by decide) (by decide) e242 ?_
  refine gc_dup C (dat dt_X11_init_7 45 rfl) rfl ?_
  refine gc_bipush C (dat dt_X11_init_7 46 rfl) bp_110 ?_
  refine gc_bipush C (dat dt_X11_init_7 47 rfl) bp_32 ?_
  obtain ⟨c243, e244, hrun⟩ := bd hrun
  refine gc_ast (t := 1) (j := 110) C (dat dt_X11_init_7 48 rfl) (Or.inr ⟨rfl, rfl⟩) (fun _ => by decide) (by decide) (by decide) e244 ?_
  refine gc_dup C (dat dt_X11_init_7 49 rfl) rfl ?_
  refine gc_bipush C (dat dt_X11_init_7 50 rfl) bp_111 ?_
  refine gc_bipush C (dat dt_X11_init_7 51 rfl) bp_115 ?_
  obtain ⟨c245, e246, hrun⟩ := bd hrun
  refine gc_ast (t := 1) (j := 111) C (dat dt_X11_init_7 52 rfl) (Or.inr ⟨rfl, rfl⟩) (fun _ => by decide) (by decide) (by decide) e246 ?_
  refine gc_dup C (dat dt_X11_init_7 53 rfl) rfl ?_
  refine gc_bipush C (dat dt_X11_init_7 54 rfl) bp_112 ?_
  refine gc_bipush C (dat dt_X11_init_7 55 rfl) bp_101 ?_
  obtain ⟨c247, e248, hrun⟩ := bd hrun
  refine gc_ast (t := 1) (j := 112) C (dat dt_X11_init_7 56 rfl) (Or.inr ⟨rfl, rfl⟩) (fun _ => by decide) (by decide) (by decide) e248 ?_
  refine gc_dup C (dat dt_X11_init_7 57 rfl) rfl ?_
  refine gc_bipush C (dat dt_X11_init_7 58 rfl) bp_113 ?_
  refine gc_bipush C (dat dt_X11_init_7 59 rfl) bp_97 ?_
  obtain ⟨c249, e250, hrun⟩ := bd hrun
  refine gc_ast (t := 1) (j := 113) C (dat dt_X11_init_8 0 rfl) (Or.inr ⟨rfl, rfl⟩) (fun _ => by decide) (by decide) (by decide) e250 ?_
  refine gc_dup C (dat dt_X11_init_8 1 rfl) rfl ?_
  refine gc_bipush C (dat dt_X11_init_8 2 rfl) bp_114 ?_
  refine gc_bipush C (dat dt_X11_init_8 3 rfl) bp_116 ?_
  obtain ⟨c251, e252, hrun⟩ := bd hrun
  refine gc_ast (t := 1) (j := 114) C (dat dt_X11_init_8 4 rfl) (Or.inr ⟨rfl, rfl⟩) (fun _ => by decide) (by decide) (by decide) e252 ?_
  refine gc_dup C (dat dt_X11_init_8 5 rfl) rfl ?_
  refine gc_bipush C (dat dt_X11_init_8 6 rfl) bp_115 ?_
  refine gc_bipush C (dat dt_X11_init_8 7 rfl) bp_32 ?_
  obtain ⟨c253, e254, hrun⟩ := bd hrun
  refine gc_ast (t := 1) (j := 115) C (dat dt_X11_init_8 8 rfl) (Or.inr ⟨rfl, rfl⟩) (fun _ => by decide) (by decide) (by decide) e254 ?_
  refine gc_dup C (dat dt_X11_init_8 9 rfl) rfl ?_
  refine gc_bipush C (dat dt_X11_init_8 10 rfl) bp_116 ?_
  refine gc_bipush C (dat dt_X11_init_8 11 rfl) bp_97 ?_
  obtain ⟨c255, e256, hrun⟩ := bd hrun
  refine gc_ast (t := 1) (j := 116) C (dat dt_X11_init_8 12 rfl) (Or.inr ⟨rfl, rfl⟩) (fun _ => by decide) (by decide) (by decide) e256 ?_
  refine gc_dup C (dat dt_X11_init_8 13 rfl) rfl ?_
  refine gc_bipush C (dat dt_X11_init_8 14 rfl) bp_117 ?_
  refine gc_bipush C (dat dt_X11_init_8 15 rfl) bp_116 ?_
  obtain ⟨c257, e258, hrun⟩ := bd hrun
  refine gc_ast (t := 1) (j := 117) C (dat dt_X11_init_8 16 rfl) (Or.inr ⟨rfl, rfl⟩) (fun _ => by decide) (by decide) (by decide) e258 ?_
  refine gc_dup C (dat dt_X11_init_8 17 rfl) rfl ?_
  refine gc_bipush C (dat dt_X11_init_8 18 rfl) bp_118 ?_
  refine gc_bipush C (dat dt_X11_init_8 19 rfl) bp_32 ?_
  obtain ⟨c259, e260, hrun⟩ := bd hrun
  refine gc_ast (t := 1) (j := 118) C (dat dt_X11_init_8 20 rfl) (Or.inr ⟨rfl, rfl⟩) (fun _ => by decide) (by decide) (by decide) e260 ?_
  refine gc_dup C (dat dt_X11_init_8 21 rfl) rfl ?_
  refine gc_bipush C (dat dt_X11_init_8 22 rfl) bp_119 ?_
  refine gc_bipush C (dat dt_X11_init_8 23 rfl) bp_111 ?_
  obtain ⟨c261, e262, hrun⟩ := bd hrun
  refine gc_ast (t := 1) (j := 119) C (dat dt_X11_init_8 24 rfl) (Or.inr ⟨rfl, rfl⟩) (fun _ => by decide) (by decide) (by decide) e262 ?_
  refine gc_dup C (dat dt_X11_init_8 25 rfl) rfl ?_
  refine gc_bipush C (dat dt_X11_init_8 26 rfl) bp_120 ?_
  refine gc_bipush C (dat dt_X11_init_8 27 rfl) bp_117 ?_
  obtain ⟨c263, e264, hrun⟩ := bd hrun
  refine gc_ast (t := 1) (j := 120) C (dat dt_X11_init_8 28 rfl) (Or.inr ⟨rfl, rfl⟩) (fun _ => by decide) (by decide) (by decide) e264 ?_
  refine gc_dup C (dat dt_X11_init_8 29 rfl) rfl ?_
  refine gc_bipush C (dat dt_X11_init_8 30 rfl) bp_121 ?_
  refine gc_bipush C (dat dt_X11_init_8 31 rfl) bp_116 ?_
  obtain ⟨c265, e266, hrun⟩ := bd hrun
  refine gc_ast (t := 1) (j := 121) C (dat dt_X11_init_8 32 rfl) (Or.inr ⟨rfl, rfl⟩) (fun _ => by decide) (by decide) (by decide) e266 ?_
  refine gc_dup C (dat dt_X11_init_8 33 rfl) rfl ?_
  refine gc_bipush C (dat dt_X11_init_8 34 rfl) bp_122 ?_
  refine gc_bipush C (dat dt_X11_init_8 35 rfl) bp_32 ?_
  obtain ⟨c267, e268, hrun⟩ := bd hrun
  refine gc_ast (t := 1) (j := 122) C (dat dt_X11_init_8 36 rfl) (Or.inr ⟨rfl, rfl⟩) (fun _ => by decide) (by decide) (by decide) e268 ?_
  refine gc_dup C (dat dt_X11_init_8 37 rfl) rfl ?_
  refine gc_bipush C (dat dt_X11_init_8 38 rfl) bp_123 ?_
  refine gc_bipush C (dat dt_X11_init_8 39 rfl) bp_115 ?_
  obtain ⟨c269, e270, hrun⟩ := bd hrun
  refine gc_ast (t := 1) (j := 123) C (dat dt_X11_init_8 40 rfl) (Or.inr ⟨rfl, rfl⟩) (fun _ => by decide) (by decide) (by decide) e270 ?_
  refine gc_dup C (dat dt_X11_init_8 41 rfl) rfl ?_
  refine gc_bipush C (dat dt_X11_init_8 42 rfl) bp_124 ?_
  refine gc_bipush C (dat dt_X11_init_8 43 rfl) bp_119 ?_
  obtain ⟨c271, e272, hrun⟩ := bd hrun
  refine gc_ast (t := 1) (j := 124) C (dat dt_X11_init_8 44 rfl) (Or.inr ⟨rfl, rfl⟩) (fun _ => by decide) (by decide) (by decide) e272 ?_
  refine gc_dup C (dat dt_X11_init_8 45 rfl) rfl ?_
  refine gc_bipush C (dat dt_X11_init_8 46 rfl) bp_125 ?_
  refine gc_bipush C (dat dt_X11_init_8 47 rfl) bp_97 ?_
  obtain ⟨c273, e274, hrun⟩ := bd hrun
  refine gc_ast (t := 1) (j := 125) C (dat dt_X11_init_8 48 rfl) (Or.inr ⟨rfl, rfl⟩) (fun _ => by decide) (by decide) (by decide) e274 ?_
  refine gc_dup C (dat dt_X11_init_8 49 rfl) rfl ?_
  refine gc_bipush C (dat dt_X11_init_8 50 rfl) bp_126 ?_
  refine gc_bipush C (dat dt_X11_init_8 51 rfl) bp_112 ?_
  obtain ⟨c275, e276, hrun⟩ := bd hrun
  refine gc_ast (t := 1) (j := 126) C (dat dt_X11_init_8 52 rfl) (Or.inr ⟨rfl, rfl⟩) (fun _ => by decide) (by decide) (by decide) e276 ?_
  refine gc_dup C (dat dt_X11_init_8 53 rfl) rfl ?_
  refine gc_bipush C (dat dt_X11_init_8 54 rfl) bp_127 ?_
  refine gc_bipush C (dat dt_X11_init_8 55 rfl) bp_32 ?_
  obtain ⟨c277, e278, hrun⟩ := bd hrun
  refine gc_ast (t := 1) (j := 127) C (dat dt_X11_init_8 56 rfl) (Or.inr ⟨rfl, rfl⟩) (fun _ => by decide) (by decide) (by decide) e278 ?_
  refine gc_dup C (dat dt_X11_init_8 57 rfl) rfl ?_
  refine gc_sipush C (dat dt_X11_init_8 58 rfl) sp_128 ?_
  refine gc_bipush C (dat dt_X11_init_8 59 rfl) bp_119 ?_
  obtain ⟨c279, e280, hrun⟩ := bd hrun
  refine gc_ast (t := 1) (j := 128) C (dat dt_X11_init_9 0 rfl) (Or.inr ⟨rfl, rfl⟩) (fun _ => by decide) (by decide) (by decide) e280 ?_
  refine gc_dup C (dat dt_X11_init_9 1 rfl) rfl ?_
  refine gc_sipush C (dat dt_X11_init_9 2 rfl) sp_129 ?_
  refine gc_bipush C (dat dt_X11_init_9 3 rfl) bp_105 ?_
  obtain ⟨c281, e282, hrun⟩ := bd hrun
  refine gc_ast (t := 1) (j := 129) C (dat dt_X11_init_9 4 rfl) (Or.inr ⟨rfl, rfl⟩) (fun _ => by decide) (by decide) (by decide) e282 ?_
  refine gc_dup C (dat dt_X11_init_9 5 rfl) rfl ?_
  refine gc_sipush C (dat dt_X11_init_9 6 rfl) sp_130 ?_
  refine gc_bipush C (dat dt_X11_init_9 7 rfl) bp_116 ?_
  obtain ⟨c283, e284, hrun⟩ := bd hrun
  refine gc_ast (t := 1) (j := 130) C (dat dt_X11_init_9 8 rfl) (Or.inr ⟨rfl, rfl⟩) (fun _ => by decide) (by decide) (by decide) e284 ?_
  refine gc_dup C (dat dt_X11_init_9 9 rfl) rfl ?_
  refine gc_sipush C (dat dt_X11_init_9 10 rfl) sp_131 ?_
  refine gc_bipush C (dat dt_X11_init_9 11 rfl) bp_104 ?_
  obtain ⟨c285, e286, hrun⟩ := bd hrun
  refine gc_ast (t := 1) (j := 131) C (dat dt_X11_init_9 12 rfl) (Or.inr ⟨rfl, rfl⟩) (fun _ => by decide) (by decide) (by decide) e286 ?_
  refine gc_dup C (dat dt_X11_init_9 13 rfl) rfl ?_
  refine gc_sipush C (dat dt_X11_init_9 14 rfl) sp_132 ?_
  refine gc_bipush C (dat dt_X11_init_9 15 rfl) bp_32 ?_
  obtain ⟨c287, e288, hrun⟩ := bd hrun
  refine gc_ast (t := 1) (j := 132) C (dat dt_X11_init_9 16 rfl) (Or.inr ⟨rfl, rfl⟩) (fun _ => by decide) (by decide) (by decide) e288 ?_
  refine gc_dup C (dat dt_X11_init_9 17 rfl) rfl ?_
  refine gc_sipush C (dat dt_X11_init_9 18 rfl) sp_133 ?_
  refine gc_bipush C (dat dt_X11_init_9 19 rfl) bp_112 ?_
  obtain ⟨c289, e290, hrun⟩ := bd hrun
  refine gc_ast (t := 1) (j := 133) C (dat dt_X11_init_9 20 rfl) (Or.inr ⟨rfl, rfl⟩) (fun _ => by decide) (by decide) (by decide) e290 ?_
  refine gc_dup C (dat dt_X11_init_9 21 rfl) rfl ?_
  refine gc_sipush C (dat dt_X11_init_9 22 rfl) sp_134 ?_
  refine gc_bipush C (dat dt_X11_init_9 23 rfl) bp_97 ?_
  obtain ⟨c291, e292, hrun⟩ := bd hrun
  refine gc_ast (t := 1) (j := 134) C (dat dt_X11_init_9 24 rfl) (Or.inr ⟨rfl, rfl⟩) (fun _ => by decide) (by decide) (by decide) e292 ?_
  refine gc_dup C (dat dt_X11_init_9 25 rfl) rfl ?_
  refine gc_sipush C (dat dt_X11_init_9 26 rfl) sp_135 ?_
  refine gc_bipush C (dat dt_X11_init_9 27 rfl) bp_115 ?_
  obtain ⟨c293, e294, hrun⟩ := bd hrun
  refine gc_ast (t := 1) (j := 135) C (dat dt_X11_init_9 28 rfl) (Or.inr ⟨rfl, rfl⟩) (fun _ => by decide) (by decide) (by decide) e294 ?_
  refine gc_dup C (dat dt_X11_init_9 29 rfl) rfl ?_
  refine gc_sipush C (dat dt_X11_init_9 30 rfl) sp_136 ?_
  refine gc_bipush C (dat dt_X11_init_9 31 rfl) bp_115 ?_
  obtain ⟨c295, e296, hrun⟩ := bd hrun
  refine gc_ast (t := 1) (j := 136) C (dat dt_X11_init_9 32 rfl) (Or.inr ⟨rfl, rfl⟩) (fun _ => by decide) (by decide) (by decide) e296 ?_
  refine gc_dup C (dat dt_X11_init_9 33 rfl) rfl ?_
  refine gc_sipush C (dat dt_X11_init_9 34 rfl) sp_137 ?_
  refine gc_bipush C (dat dt_X11_init_9 35 rfl) bp_32 ?_
  obtain ⟨c297, e298, hrun⟩ := bd hrun
  refine gc_ast (t := 1) (j := 137) C (dat dt_X11_init_9 36 rfl) (Or.inr ⟨rfl, rfl⟩) (fun _ => by decide) (by decide) (by decide) e298 ?_
  refine gc_dup C (dat dt_X11_init_9 37 rfl) rfl ?_
  refine gc_sipush C (dat dt_X11_init_9 38 rfl) sp_138 ?_
  refine gc_bipush C (dat dt_X11_init_9 39 rfl) bp_116 ?_
  obtain ⟨c299, e300, hrun⟩ := bd hrun
  refine gc_ast (t := 1) (j := 138) C (dat dt_X11_init_9 40 rfl) (Or.inr ⟨rfl, rfl⟩) (fun _ => by decide) (by decide) (by decide) e300 ?_
  refine gc_dup C (dat dt_X11_init_9 41 rfl) rfl ?_
  refine gc_sipush C (dat dt_X11_init_9 42 rfl) sp_139 ?_
  refine gc_bipush C (dat dt_X11_init_9 43 rfl) bp_105 ?_
  obtain ⟨c301, e302, hrun⟩ := bd hrun
  refine gc_ast (t := 1) (j := 139) C (dat dt_X11_init_9 44 rfl) (Or.inr ⟨rfl, rfl⟩) (fun _ => by decide) (by decide) (by decide) e302 ?_
  refine gc_dup C (dat dt_X11_init_9 45 rfl) rfl ?_
  refine gc_sipush C (dat dt_X11_init_9 46 rfl) sp_140 ?_
  refine gc_bipush C (dat dt_X11_init_9 47 rfl) bp_109 ?_
  obtain ⟨c303, e304, hrun⟩ := bd hrun
  refine gc_ast (t := 1) (j := 140) C (dat dt_X11_init_9 48 rfl) (Or.inr ⟨rfl, rfl⟩) (fun _ => by decide) (by decide) (by decide) e304 ?_
  refine gc_dup C (dat dt_X11_init_9 49 rfl) rfl ?_
  refine gc_sipush C (dat dt_X11_init_9 50 rfl) sp_141 ?_
  refine gc_bipush C (dat dt_X11_init_9 51 rfl) bp_101 ?_
  obtain ⟨c305, e306, hrun⟩ := bd hrun
  refine gc_ast (t := 1) (j := 141) C (dat dt_X11_init_9 52 rfl) (Or.inr ⟨rfl, rfl⟩) (fun _ => by decide) (by decide) (by decide) e306 ?_
  refine gc_dup C (dat dt_X11_init_9 53 rfl) rfl ?_
  refine gc_sipush C (dat dt_X11_init_9 54 rfl) sp_142 ?_
  refine gc_bipush C (dat dt_X11_init_9 55 rfl) bp_115 ?_
  obtain ⟨c307, e308, hrun⟩ := bd hrun
  refine gc_ast (t := 1) (j := 142) C (dat dt_X11_init_9 56 rfl) (Or.inr ⟨rfl, rfl⟩) (fun _ => by decide) (by decide) (by decide) e308 ?_
  refine gc_dup C (dat dt_X11_init_9 57 rfl) rfl ?_
  refine gc_sipush C (dat dt_X11_init_9 58 rfl) sp_143 ?_
  refine gc_bipush C (dat dt_X11_init_9 59 rfl) bp_32 ?_
  obtain ⟨c309, e310, hrun⟩ := bd hrun
  refine gc_ast (t := 1) (j := 143) C (dat dt_X11_init_10 0 rfl) (Or.inr ⟨rfl, rfl⟩) (fun _ => by decide) (by decide) (by decide) e310 ?_
  obtain ⟨c311, e312, hrun⟩ := bd hrun
  refine gc_putF C Hi (dat dt_X11_init_10 1 rfl) ff_11_41 (fun E => ⟨rfl, rfl⟩) e312 ?_
  refine gc_aload_n C (dat dt_X11_init_10 2 rfl) 0 rfl ?_
  refine gc_sipush C (dat dt_X11_init_10 3 rfl) sp_400 ?_
  obtain ⟨c313, e314, hrun⟩ := bd hrun
  refine gc_newa (t := 1) (N := 400) C (dat dt_X11_init_10 4 rfl) rfl rfl ac_byte (by decide) (by decide) (by decide) e314 ⟨by decide, by decide⟩ ?_
  obtain ⟨c315, e316, hrun⟩ := bd hrun
  refine gc_putF C Hi (dat dt_X11_init_10 5 rfl) ff_11_45 (fun E => ⟨rfl, rfl⟩) e316 ?_
  refine gc_aload_n C (dat dt_X11_init_10 6 rfl) 0 rfl ?_
  refine gc_iconst C (dat dt_X11_init_10 7 rfl) ic_5 ?_
  obtain ⟨c317, e318, hrun⟩ := bd hrun
  refine gc_newa (t := 0) (N := 5) C (dat dt_X11_init_10 8 rfl) rfl rfl ac_int (by decide) (by decide) (by decide) e318 ⟨by decide, by decide⟩ ?_
  obtain ⟨c319, e320, hrun⟩ := bd hrun
  refine gc_putF C Hi (dat dt_X11_init_10 9 rfl) ff_11_48 (fun E => ⟨rfl, rfl⟩) e320 ?_
  refine gc_aload_n C (dat dt_X11_init_10 10 rfl) 0 rfl ?_
  refine gc_iconst C (dat dt_X11_init_10 11 rfl) ic_m1 ?_
  obtain ⟨c321, e322, hrun⟩ := bd hrun
  refine gc_putI C (dat dt_X11_init_10 12 rfl) fl_11_51 (fun E => ⟨rfl, rfl⟩) e322 ?_
  refine gc_aload_n C (dat dt_X11_init_10 13 rfl) 0 rfl ?_
  refine gc_sipush C (dat dt_X11_init_10 14 rfl) sp_401 ?_
  obtain ⟨c323, e324, hrun⟩ := bd hrun
  refine gc_newa (t := 0) (N := 401) C (dat dt_X11_init_10 15 rfl) rfl rfl ac_int (by decide) (by decide) (by decide) e324 ⟨by decide, by decide⟩ ?_
  obtain ⟨c325, e326, hrun⟩ := bd hrun
  refine gc_putF C Hi (dat dt_X11_init_10 16 rfl) ff_11_54 (fun E => ⟨rfl, rfl⟩) e326 ?_
  refine gc_aload_n C (dat dt_X11_init_10 17 rfl) 0 rfl ?_
  refine gc_sipush C (dat dt_X11_init_10 18 rfl) sp_401 ?_
  obtain ⟨c327, e328, hrun⟩ := bd hrun
  refine gc_newa (t := 0) (N := 401) C (dat dt_X11_init_10 19 rfl) rfl rfl ac_int (by decide) (by decide) (by decide) e328 ⟨by decide, by decide⟩ ?_
  obtain ⟨c329, e330, hrun⟩ := bd hrun
  refine gc_putF C Hi (dat dt_X11_init_10 20 rfl) ff_11_57 (fun E => ⟨rfl, rfl⟩) e330 ?_
  refine gc_aload_n C (dat dt_X11_init_10 21 rfl) 0 rfl ?_
  refine gc_sipush C (dat dt_X11_init_10 22 rfl) sp_401 ?_
  obtain ⟨c331, e332, hrun⟩ := bd hrun
  refine gc_newa (t := 0) (N := 401) C (dat dt_X11_init_10 23 rfl) rfl rfl ac_int (by decide) (by decide) (by decide) e332 ⟨by decide, by decide⟩ ?_
  obtain ⟨c333, e334, hrun⟩ := bd hrun
  refine gc_putF C Hi (dat dt_X11_init_10 24 rfl) ff_11_60 (fun E => ⟨rfl, rfl⟩) e334 ?_
  refine gc_aload_n C (dat dt_X11_init_10 25 rfl) 0 rfl ?_
  refine gc_bipush C (dat dt_X11_init_10 26 rfl) bp_8 ?_
  obtain ⟨c335, e336, hrun⟩ := bd hrun
  refine gc_newa (t := 0) (N := 8) C (dat dt_X11_init_10 27 rfl) rfl rfl ac_int (by decide) (by decide) (by decide) e336 ⟨by decide, by decide⟩ ?_
  obtain ⟨c337, e338, hrun⟩ := bd hrun
  refine gc_putF C Hi (dat dt_X11_init_10 28 rfl) ff_11_63 (fun E => ⟨rfl, rfl⟩) e338 ?_
  refine gc_aload_n C (dat dt_X11_init_10 29 rfl) 0 rfl ?_
  refine gc_bipush C (dat dt_X11_init_10 30 rfl) bp_18 ?_
  obtain ⟨c339, e340, hrun⟩ := bd hrun
  refine gc_newa (t := 0) (N := 18) C (dat dt_X11_init_10 31 rfl) rfl rfl ac_int (by decide) (by decide) (by decide) e340 ⟨by decide, by decide⟩ ?_
  obtain ⟨c341, e342, hrun⟩ := bd hrun
  refine gc_putF C Hi (dat dt_X11_init_10 32 rfl) ff_11_66 (fun E => ⟨rfl, rfl⟩) e342 ?_
  refine gc_aload_n C (dat dt_X11_init_10 33 rfl) 0 rfl ?_
  refine gc_sipush C (dat dt_X11_init_10 34 rfl) sp_416 ?_
  obtain ⟨c343, e344, hrun⟩ := bd hrun
  refine gc_newa (t := 0) (N := 416) C (dat dt_X11_init_10 35 rfl) rfl rfl ac_int (by decide) (by decide) (by decide) e344 ⟨by decide, by decide⟩ ?_
  obtain ⟨c345, e346, hrun⟩ := bd hrun
  refine gc_putF C Hi (dat dt_X11_init_10 36 rfl) ff_11_69 (fun E => ⟨rfl, rfl⟩) e346 ?_
  refine gc_aload_n C (dat dt_X11_init_10 37 rfl) 0 rfl ?_
  refine gc_sipush C (dat dt_X11_init_10 38 rfl) sp_416 ?_
  obtain ⟨c347, e348, hrun⟩ := bd hrun
  refine gc_newa (t := 0) (N := 416) C (dat dt_X11_init_10 39 rfl) rfl rfl ac_int (by decide) (by decide) (by decide) e348 ⟨by decide, by decide⟩ ?_
  obtain ⟨c349, e350, hrun⟩ := bd hrun
  refine gc_putF C Hi (dat dt_X11_init_10 40 rfl) ff_11_72 (fun E => ⟨rfl, rfl⟩) e350 ?_
  refine gc_aload_n C (dat dt_X11_init_10 41 rfl) 0 rfl ?_
  refine gc_bipush C (dat dt_X11_init_10 42 rfl) bp_6 ?_
  obtain ⟨c351, e352, hrun⟩ := bd hrun
  refine gc_newa (t := 0) (N := 6) C (dat dt_X11_init_10 43 rfl) rfl rfl ac_int (by decide) (by decide) (by decide) e352 ⟨by decide, by decide⟩ ?_
  obtain ⟨c353, e354, hrun⟩ := bd hrun
  refine gc_putF C Hi (dat dt_X11_init_10 44 rfl) ff_11_75 (fun E => ⟨rfl, rfl⟩) e354 ?_
  refine gc_aload_n C (dat dt_X11_init_10 45 rfl) 0 rfl ?_
  refine gc_bipush C (dat dt_X11_init_10 46 rfl) bp_6 ?_
  obtain ⟨c355, e356, hrun⟩ := bd hrun
  refine gc_newa (t := 0) (N := 6) C (dat dt_X11_init_10 47 rfl) rfl rfl ac_int (by decide) (by decide) (by decide) e356 ⟨by decide, by decide⟩ ?_
  obtain ⟨c357, e358, hrun⟩ := bd hrun
  refine gc_putF C Hi (dat dt_X11_init_10 48 rfl) ff_11_78 (fun E => ⟨rfl, rfl⟩) e358 ?_
  refine gc_aload_n C (dat dt_X11_init_10 49 rfl) 0 rfl ?_
  refine gc_sipush C (dat dt_X11_init_10 50 rfl) sp_720 ?_
  obtain ⟨c359, e360, hrun⟩ := bd hrun
  refine gc_newa (t := 0) (N := 720) C (dat dt_X11_init_10 51 rfl) rfl rfl ac_int (by decide) (by decide) (by decide) e360 ⟨by decide, by decide⟩ ?_
  obtain ⟨c361, e362, hrun⟩ := bd hrun
  refine gc_putF C Hi (dat dt_X11_init_10 52 rfl) ff_11_81 (fun E => ⟨rfl, rfl⟩) e362 ?_
  refine gc_aload_n C (dat dt_X11_init_10 53 rfl) 0 rfl ?_
  refine gc_sipush C (dat dt_X11_init_10 54 rfl) sp_720 ?_
  obtain ⟨c363, e364, hrun⟩ := bd hrun
  refine gc_newa (t := 0) (N := 720) C (dat dt_X11_init_10 55 rfl) rfl rfl ac_int (by decide) (by decide) (by decide) e364 ⟨by decide, by decide⟩ ?_
  obtain ⟨c365, e366, hrun⟩ := bd hrun
  refine gc_putF C Hi (dat dt_X11_init_10 56 rfl) ff_11_84 (fun E => ⟨rfl, rfl⟩) e366 ?_
  refine gc_aload_n C (dat dt_X11_init_10 57 rfl) 0 rfl ?_
  refine gc_sipush C (dat dt_X11_init_10 58 rfl) sp_720 ?_
  obtain ⟨c367, e368, hrun⟩ := bd hrun
  refine gc_newa (t := 0) (N := 720) C (dat dt_X11_init_10 59 rfl) rfl rfl ac_int (by decide) (by decide) (by decide) e368 ⟨by decide, by decide⟩ ?_
  obtain ⟨c369, e370, hrun⟩ := bd hrun
  refine gc_putF C Hi (dat dt_X11_init_11 0 rfl) ff_11_87 (fun E => ⟨rfl, rfl⟩) e370 ?_
  refine gc_aload_n C (dat dt_X11_init_11 1 rfl) 0 rfl ?_
  refine gc_sipush C (dat dt_X11_init_11 2 rfl) sp_720 ?_
  obtain ⟨c371, e372, hrun⟩ := bd hrun
  refine gc_newa (t := 2) (N := 720) C (dat dt_X11_init_11 3 rfl) rfl rfl ac_boolean (by decide) (by decide) (by decide) e372 ⟨by decide, by decide⟩ ?_
  obtain ⟨c373, e374, hrun⟩ := bd hrun
  refine gc_putF C Hi (dat dt_X11_init_11 4 rfl) ff_11_90 (fun E => ⟨rfl, rfl⟩) e374 ?_
  refine gc_aload_n C (dat dt_X11_init_11 5 rfl) 0 rfl ?_
  refine gc_sipush C (dat dt_X11_init_11 6 rfl) sp_4320 ?_
  obtain ⟨c375, e376, hrun⟩ := bd hrun
  refine gc_newa (t := 0) (N := 4320) C (dat dt_X11_init_11 7 rfl) rfl rfl ac_int (by decide) (by decide) (by decide) e376 ⟨by decide, by decide⟩ ?_
  obtain ⟨c377, e378, hrun⟩ := bd hrun
  refine gc_putF C Hi (dat dt_X11_init_11 8 rfl) ff_11_93 (fun E => ⟨rfl, rfl⟩) e378 ?_
  refine gc_aload_n C (dat dt_X11_init_11 9 rfl) 0 rfl ?_
  refine gc_iconst C (dat dt_X11_init_11 10 rfl) ic_3 ?_
  obtain ⟨c379, e380, hrun⟩ := bd hrun
  refine gc_newa (t := 0) (N := 3) C (dat dt_X11_init_11 11 rfl) rfl rfl ac_int (by decide) (by decide) (by decide) e380 ⟨by decide, by decide⟩ ?_
  obtain ⟨c381, e382, hrun⟩ := bd hrun
  refine gc_putF C Hi (dat dt_X11_init_11 12 rfl) ff_11_96 (fun E => ⟨rfl, rfl⟩) e382 ?_
  refine gc_aload_n C (dat dt_X11_init_11 13 rfl) 0 rfl ?_
  refine gc_bipush C (dat dt_X11_init_11 14 rfl) bp_6 ?_
  obtain ⟨c383, e384, hrun⟩ := bd hrun
  refine gc_newa (t := 0) (N := 6) C (dat dt_X11_init_11 15 rfl) rfl rfl ac_int (by decide) (by decide) (by decide) e384 ⟨by decide, by decide⟩ ?_
  obtain ⟨c385, e386, hrun⟩ := bd hrun
  refine gc_putF C Hi (dat dt_X11_init_11 16 rfl) ff_11_99 (fun E => ⟨rfl, rfl⟩) e386 ?_
  refine gc_aload_n C (dat dt_X11_init_11 17 rfl) 0 rfl ?_
  refine gc_bipush C (dat dt_X11_init_11 18 rfl) bp_6 ?_
  obtain ⟨c387, e388, hrun⟩ := bd hrun
  refine gc_newa (t := 0) (N := 6) C (dat dt_X11_init_11 19 rfl) rfl rfl ac_int (by decide) (by decide) (by decide) e388 ⟨by decide, by decide⟩ ?_
  obtain ⟨c389, e390, hrun⟩ := bd hrun
  refine gc_putF C Hi (dat dt_X11_init_11 20 rfl) ff_11_102 (fun E => ⟨rfl, rfl⟩) e390 ?_
  refine gc_aload_n C (dat dt_X11_init_11 21 rfl) 0 rfl ?_
  refine gc_bipush C (dat dt_X11_init_11 22 rfl) bp_21 ?_
  obtain ⟨c391, e392, hrun⟩ := bd hrun
  refine gc_newa (t := 3) (N := 21) C (dat dt_X11_init_11 23 rfl) rfl rfl ac_long (by decide) (by decide) (by decide) e392 ⟨by decide, by decide⟩ ?_
  obtain ⟨c393, e394, hrun⟩ := bd hrun
  refine gc_putF C Hi (dat dt_X11_init_11 24 rfl) ff_11_105 (fun E => ⟨rfl, rfl⟩) e394 ?_
  refine gc_aload_n C (dat dt_X11_init_11 25 rfl) 0 rfl ?_
  refine gc_iconst C (dat dt_X11_init_11 26 rfl) ic_m1 ?_
  obtain ⟨c395, e396, hrun⟩ := bd hrun
  refine gc_putI C (dat dt_X11_init_11 27 rfl) fl_11_109 (fun E => ⟨rfl, rfl⟩) e396 ?_
  refine gc_aload_n C (dat dt_X11_init_11 28 rfl) 0 rfl ?_
  refine gc_iconst C (dat dt_X11_init_11 29 rfl) ic_2 ?_
  obtain ⟨c397, e398, hrun⟩ := bd hrun
  refine gc_newa (t := 3) (N := 2) C (dat dt_X11_init_11 30 rfl) rfl rfl ac_long (by decide) (by decide) (by decide) e398 ⟨by decide, by decide⟩ ?_
  obtain ⟨c399, e400, hrun⟩ := bd hrun
  refine gc_putF C Hi (dat dt_X11_init_11 31 rfl) ff_11_112 (fun E => ⟨rfl, rfl⟩) e400 ?_
  refine gc_aload_n C (dat dt_X11_init_11 32 rfl) 0 rfl ?_
  refine gc_bipush C (dat dt_X11_init_11 33 rfl) bp_25 ?_
  obtain ⟨c401, e402, hrun⟩ := bd hrun
  refine gc_newa (t := 0) (N := 25) C (dat dt_X11_init_11 34 rfl) rfl rfl ac_int (by decide) (by decide) (by decide) e402 ⟨by decide, by decide⟩ ?_
  obtain ⟨c403, e404, hrun⟩ := bd hrun
  refine gc_putF C Hi (dat dt_X11_init_11 35 rfl) ff_11_115 (fun E => ⟨rfl, rfl⟩) e404 ?_
  refine gc_aload_n C (dat dt_X11_init_11 36 rfl) 0 rfl ?_
  refine gc_iconst C (dat dt_X11_init_11 37 rfl) ic_m1 ?_
  obtain ⟨c405, e406, hrun⟩ := bd hrun
  refine gc_putI C (dat dt_X11_init_11 38 rfl) fl_11_118 (fun E => ⟨rfl, rfl⟩) e406 ?_
  refine gc_aload_n C (dat dt_X11_init_11 39 rfl) 0 rfl ?_
  obtain ⟨b407, e408, hrun⟩ := bd hrun
  refine gc_getR C (dat dt_X11_init_11 40 rfl) fl_11_28 e408 ?_
  refine gc_bipush C (dat dt_X11_init_11 41 rfl) bp_49 ?_
  refine gc_iconst C (dat dt_X11_init_11 42 rfl) ic_1 ?_
  obtain ⟨c409, e410, hrun⟩ := bd hrun
  refine gc_ast (t := 0) (j := 49) C (dat dt_X11_init_11 43 rfl) (Or.inl ⟨rfl, rfl⟩) (fun h => absurd h (by decide)) (by decide) (by decide) e410 ?_
  refine gc_aload_n C (dat dt_X11_init_11 44 rfl) 0 rfl ?_
  obtain ⟨b411, e412, hrun⟩ := bd hrun
  refine gc_getR C (dat dt_X11_init_11 45 rfl) fl_11_28 e412 ?_
  refine gc_bipush C (dat dt_X11_init_11 46 rfl) bp_54 ?_
  refine gc_iconst C (dat dt_X11_init_11 47 rfl) ic_m1 ?_
  obtain ⟨c413, e414, hrun⟩ := bd hrun
  refine gc_ast (t := 0) (j := 54) C (dat dt_X11_init_11 48 rfl) (Or.inl ⟨rfl, rfl⟩) (fun h => absurd h (by decide)) (by decide) (by decide) e414 ?_
  cases hrun
  exact gc_vret C K (dat dt_X11_init_11 49 rfl)
