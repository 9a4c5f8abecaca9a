/-! the law's cases (printed by wip/whole/gen/law.py) -/
theorem tw152 : Cond.initialized RL ∈ gtbl := gtt_1 0 rfl rfl
theorem tw602 : Cond.methodLink RL 66 yX11_wipe ∈ gtbl := gtt_2 210 rfl rfl
theorem tw603 : Cond.instanceMethod yX11_wipe ∈ gtbl := gtt_2 211 rfl rfl
theorem tw604 : Cond.selects "BundleFence" yX11_wipe yX11_wipe ∈ gtbl := gtt_2 212 rfl rfl
theorem tw605 : Cond.code yX11_wipe cX11_wipe 2 (some .int) ∈ gtbl := gtt_2 213 rfl rfl
theorem tw614 : Cond.methodLink RL 70 yX11_look ∈ gtbl := gtt_2 222 rfl rfl
theorem tw615 : Cond.instanceMethod yX11_look ∈ gtbl := gtt_2 223 rfl rfl
theorem tw616 : Cond.selects "BundleFence" yX11_look yX11_look ∈ gtbl := gtt_2 224 rfl rfl
theorem tw617 : Cond.code yX11_look cX11_look 1 (some .int) ∈ gtbl := gtt_2 225 rfl rfl
theorem tw937 : Cond.methodLink RL 74 yX11_fault ∈ gtbl := gtt_4 65 rfl rfl
theorem tw938 : Cond.instanceMethod yX11_fault ∈ gtbl := gtt_4 66 rfl rfl
theorem tw939 : Cond.selects "BundleFence" yX11_fault yX11_fault ∈ gtbl := gtt_4 67 rfl rfl
theorem tw940 : Cond.code yX11_fault cX11_fault 1 (some .int) ∈ gtbl := gtt_4 68 rfl rfl
theorem tw941 : Cond.methodLink RL 78 yX11_place ∈ gtbl := gtt_4 69 rfl rfl
theorem tw942 : Cond.instanceMethod yX11_place ∈ gtbl := gtt_4 70 rfl rfl
theorem tw943 : Cond.selects "BundleFence" yX11_place yX11_place ∈ gtbl := gtt_4 71 rfl rfl
theorem tw944 : Cond.code yX11_place cX11_place 1 (some .int) ∈ gtbl := gtt_4 72 rfl rfl
theorem tw945 : Cond.methodLink RL 82 yX11_unit ∈ gtbl := gtt_4 73 rfl rfl
theorem tw946 : Cond.instanceMethod yX11_unit ∈ gtbl := gtt_4 74 rfl rfl
theorem tw947 : Cond.selects "BundleFence" yX11_unit yX11_unit ∈ gtbl := gtt_4 75 rfl rfl
theorem tw948 : Cond.code yX11_unit cX11_unit 2 (some .int) ∈ gtbl := gtt_4 76 rfl rfl
theorem tw951 : Cond.methodLink RL 86 yX11_size ∈ gtbl := gtt_4 79 rfl rfl
theorem tw952 : Cond.instanceMethod yX11_size ∈ gtbl := gtt_4 80 rfl rfl
theorem tw953 : Cond.selects "BundleFence" yX11_size yX11_size ∈ gtbl := gtt_4 81 rfl rfl
theorem tw954 : Cond.code yX11_size cX11_size 2 (some .int) ∈ gtbl := gtt_4 82 rfl rfl
theorem tw956 : Cond.methodLink RL 90 yX11_tell ∈ gtbl := gtt_4 84 rfl rfl
theorem tw957 : Cond.instanceMethod yX11_tell ∈ gtbl := gtt_4 85 rfl rfl
theorem tw958 : Cond.selects "BundleFence" yX11_tell yX11_tell ∈ gtbl := gtt_4 86 rfl rfl
theorem tw959 : Cond.code yX11_tell cX11_tell 2 (some .int) ∈ gtbl := gtt_4 87 rfl rfl
theorem tw1411 : Cond.methodLink RL 94 yX11_text ∈ gtbl := gtt_6 59 rfl rfl
theorem tw1412 : Cond.instanceMethod yX11_text ∈ gtbl := gtt_6 60 rfl rfl
theorem tw1413 : Cond.selects "BundleFence" yX11_text yX11_text ∈ gtbl := gtt_6 61 rfl rfl
theorem tw1414 : Cond.code yX11_text cX11_text 2 (some .long) ∈ gtbl := gtt_6 62 rfl rfl
theorem tw1429 : Cond.methodLink RL 103 yX11_peek ∈ gtbl := gtt_6 77 rfl rfl
theorem tw1430 : Cond.instanceMethod yX11_peek ∈ gtbl := gtt_6 78 rfl rfl
theorem tw1431 : Cond.selects "BundleFence" yX11_peek yX11_peek ∈ gtbl := gtt_6 79 rfl rfl
theorem tw1432 : Cond.code yX11_peek cX11_peek 3 (some .int) ∈ gtbl := gtt_6 80 rfl rfl
theorem tw1439 : Cond.methodLink RL 125 yX11_steps ∈ gtbl := gtt_6 87 rfl rfl
theorem tw1440 : Cond.instanceMethod yX11_steps ∈ gtbl := gtt_6 88 rfl rfl
theorem tw1441 : Cond.selects "BundleFence" yX11_steps yX11_steps ∈ gtbl := gtt_6 89 rfl rfl
theorem tw1442 : Cond.code yX11_steps cX11_steps 1 (some .long) ∈ gtbl := gtt_6 90 rfl rfl
theorem tw1443 : Cond.methodLink RL 136 yX11_output ∈ gtbl := gtt_6 91 rfl rfl
theorem tw1444 : Cond.instanceMethod yX11_output ∈ gtbl := gtt_6 92 rfl rfl
theorem tw1445 : Cond.selects "BundleFence" yX11_output yX11_output ∈ gtbl := gtt_6 93 rfl rfl
theorem tw1446 : Cond.code yX11_output cX11_output 2 (some .int) ∈ gtbl := gtt_6 94 rfl rfl
theorem tw1451 : Cond.methodLink RL 56 yL_feed ∈ gtbl := gtt_6 99 rfl rfl
theorem tw1452 : Cond.static yL_feed ∈ gtbl := gtt_6 100 rfl rfl
theorem tw1453 : Cond.codeWith yL_feed cL_feed 6 (some .int) [(0, 11, 14, 13)] ∈ gtbl := gtt_6 101 rfl rfl
theorem tw1466 : Cond.methodLink RL 99 yL_poke ∈ gtbl := gtt_6 114 rfl rfl
theorem tw1467 : Cond.static yL_poke ∈ gtbl := gtt_6 115 rfl rfl
theorem tw1468 : Cond.codeWith yL_poke cL_poke 5 (some .int) [(0, 10, 13, 13)] ∈ gtbl := gtt_6 116 rfl rfl
theorem tw1479 : Cond.methodLink RL 107 yL_give ∈ gtbl := gtt_6 127 rfl rfl
theorem tw1480 : Cond.static yL_give ∈ gtbl := gtt_6 128 rfl rfl
theorem tw1481 : Cond.codeWith yL_give cL_give 6 (some .int) [(0, 11, 14, 13)] ∈ gtbl := gtt_6 129 rfl rfl
theorem tw1490 : Cond.methodLink RL 110 yL_begin ∈ gtbl := gtt_6 138 rfl rfl
theorem tw1491 : Cond.static yL_begin ∈ gtbl := gtt_6 139 rfl rfl
theorem tw1492 : Cond.codeWith yL_begin cL_begin 3 (some .int) [(0, 5, 8, 26)] ∈ gtbl := gtt_6 140 rfl rfl
theorem tw1520 : Cond.methodLink RL 114 yL_run ∈ gtbl := gtt_6 168 rfl rfl
theorem tw1521 : Cond.static yL_run ∈ gtbl := gtt_6 169 rfl rfl
theorem tw1522 : Cond.codeWith yL_run cL_run 4 (some .int) [(0, 9, 12, 13), (0, 9, 15, 26)] ∈ gtbl := gtt_6 170 rfl rfl
theorem tw1843 : Cond.methodLink RL 118 yL_stop ∈ gtbl := gtt_8 11 rfl rfl
theorem tw1844 : Cond.static yL_stop ∈ gtbl := gtt_8 12 rfl rfl
theorem tw1845 : Cond.codeWith yL_stop cL_stop 5 (some .int) [(0, 17, 20, 13)] ∈ gtbl := gtt_8 13 rfl rfl
theorem tw1851 : Cond.methodLink RL 122 yL_told ∈ gtbl := gtt_8 19 rfl rfl
theorem tw1852 : Cond.static yL_told ∈ gtbl := gtt_8 20 rfl rfl
theorem tw1853 : Cond.codeWith yL_told cL_told 4 (some .int) [(0, 9, 12, 13)] ∈ gtbl := gtt_8 21 rfl rfl
theorem tw1859 : Cond.methodLink RL 130 yL_register ∈ gtbl := gtt_8 27 rfl rfl
theorem tw1860 : Cond.static yL_register ∈ gtbl := gtt_8 28 rfl rfl
theorem tw1861 : Cond.codeWith yL_register cL_register 4 (some .int) [(0, 9, 12, 42)] ∈ gtbl := gtt_8 29 rfl rfl
theorem tw1880 : Cond.methodLink RL 133 yL_put ∈ gtbl := gtt_8 48 rfl rfl
theorem tw1881 : Cond.static yL_put ∈ gtbl := gtt_8 49 rfl rfl
theorem tw1882 : Cond.codeWith yL_put cL_put 5 (some .int) [(0, 10, 13, 42), (0, 10, 17, 26)] ∈ gtbl := gtt_8 50 rfl rfl
theorem tw1887 : Cond.methodLink RL 140 yL_passed ∈ gtbl := gtt_8 55 rfl rfl
theorem tw1888 : Cond.static yL_passed ∈ gtbl := gtt_8 56 rfl rfl
theorem tw1889 : Cond.codeWith yL_passed cL_passed 4 (some .int) [(0, 9, 12, 13)] ∈ gtbl := gtt_8 57 rfl rfl
theorem tw2047 : Cond.methodLink RL 62 yX12_thrown ∈ gtbl := gtt_8 215 rfl rfl
theorem tw2048 : Cond.instanceMethod yX12_thrown ∈ gtbl := gtt_8 216 rfl rfl
theorem tw2049 : Cond.selects "BundleFenceModel" yX12_thrown yX12_thrown ∈ gtbl := gtt_8 217 rfl rfl
theorem tw2050 : Cond.code yX12_thrown cX12_thrown 1 (some .int) ∈ gtbl := gtt_8 218 rfl rfl
theorem tw2051 : Cond.methodLink RL 73 yX12_look ∈ gtbl := gtt_8 219 rfl rfl
theorem tw2052 : Cond.instanceMethod yX12_look ∈ gtbl := gtt_8 220 rfl rfl
theorem tw2053 : Cond.selects "BundleFenceModel" yX12_look yX12_look ∈ gtbl := gtt_8 221 rfl rfl
theorem tw2054 : Cond.code yX12_look cX12_look 8 (some .int) ∈ gtbl := gtt_8 222 rfl rfl
theorem tw2168 : Cond.methodLink RL 77 yX12_fault ∈ gtbl := gtt_9 96 rfl rfl
theorem tw2169 : Cond.instanceMethod yX12_fault ∈ gtbl := gtt_9 97 rfl rfl
theorem tw2170 : Cond.selects "BundleFenceModel" yX12_fault yX12_fault ∈ gtbl := gtt_9 98 rfl rfl
theorem tw2171 : Cond.code yX12_fault cX12_fault 1 (some .int) ∈ gtbl := gtt_9 99 rfl rfl
theorem tw2172 : Cond.methodLink RL 81 yX12_place_ ∈ gtbl := gtt_9 100 rfl rfl
theorem tw2173 : Cond.instanceMethod yX12_place_ ∈ gtbl := gtt_9 101 rfl rfl
theorem tw2174 : Cond.selects "BundleFenceModel" yX12_place_ yX12_place_ ∈ gtbl := gtt_9 102 rfl rfl
theorem tw2175 : Cond.code yX12_place_ cX12_place_ 1 (some .int) ∈ gtbl := gtt_9 103 rfl rfl
theorem tw2176 : Cond.methodLink RL 85 yX12_unit ∈ gtbl := gtt_9 104 rfl rfl
theorem tw2177 : Cond.instanceMethod yX12_unit ∈ gtbl := gtt_9 105 rfl rfl
theorem tw2178 : Cond.selects "BundleFenceModel" yX12_unit yX12_unit ∈ gtbl := gtt_9 106 rfl rfl
theorem tw2179 : Cond.code yX12_unit cX12_unit 2 (some .int) ∈ gtbl := gtt_9 107 rfl rfl
theorem tw2180 : Cond.methodLink RL 89 yX12_size ∈ gtbl := gtt_9 108 rfl rfl
theorem tw2181 : Cond.instanceMethod yX12_size ∈ gtbl := gtt_9 109 rfl rfl
theorem tw2182 : Cond.selects "BundleFenceModel" yX12_size yX12_size ∈ gtbl := gtt_9 110 rfl rfl
theorem tw2183 : Cond.code yX12_size cX12_size 2 (some .int) ∈ gtbl := gtt_9 111 rfl rfl
theorem tw2184 : Cond.methodLink RL 93 yX12_tell ∈ gtbl := gtt_9 112 rfl rfl
theorem tw2185 : Cond.instanceMethod yX12_tell ∈ gtbl := gtt_9 113 rfl rfl
theorem tw2186 : Cond.selects "BundleFenceModel" yX12_tell yX12_tell ∈ gtbl := gtt_9 114 rfl rfl
theorem tw2187 : Cond.code yX12_tell cX12_tell 2 (some .int) ∈ gtbl := gtt_9 115 rfl rfl
theorem tw2220 : Cond.methodLink RL 98 yX12_text ∈ gtbl := gtt_9 148 rfl rfl
theorem tw2221 : Cond.instanceMethod yX12_text ∈ gtbl := gtt_9 149 rfl rfl
theorem tw2222 : Cond.selects "BundleFenceModel" yX12_text yX12_text ∈ gtbl := gtt_9 150 rfl rfl
theorem tw2223 : Cond.code yX12_text cX12_text 8 (some .long) ∈ gtbl := gtt_9 151 rfl rfl
theorem tw2225 : Cond.methodLink RL 61 yX12_feed ∈ gtbl := gtt_9 153 rfl rfl
theorem tw2226 : Cond.instanceMethod yX12_feed ∈ gtbl := gtt_9 154 rfl rfl
theorem tw2227 : Cond.selects "BundleFenceModel" yX12_feed yX12_feed ∈ gtbl := gtt_9 155 rfl rfl
theorem tw2228 : Cond.code yX12_feed cX12_feed 5 (some .int) ∈ gtbl := gtt_9 156 rfl rfl
theorem tw2235 : Cond.methodLink RL 69 yX12_wipe ∈ gtbl := gtt_9 163 rfl rfl
theorem tw2236 : Cond.instanceMethod yX12_wipe ∈ gtbl := gtt_9 164 rfl rfl
theorem tw2237 : Cond.selects "BundleFenceModel" yX12_wipe yX12_wipe ∈ gtbl := gtt_9 165 rfl rfl
theorem tw2238 : Cond.code yX12_wipe cX12_wipe 2 (some .int) ∈ gtbl := gtt_9 166 rfl rfl
theorem tw2239 : Cond.methodLink RL 102 yX12_poke ∈ gtbl := gtt_9 167 rfl rfl
theorem tw2240 : Cond.instanceMethod yX12_poke ∈ gtbl := gtt_9 168 rfl rfl
theorem tw2241 : Cond.selects "BundleFenceModel" yX12_poke yX12_poke ∈ gtbl := gtt_9 169 rfl rfl
theorem tw2242 : Cond.code yX12_poke cX12_poke 4 (some .int) ∈ gtbl := gtt_9 170 rfl rfl
theorem tw2244 : Cond.methodLink RL 106 yX12_peek ∈ gtbl := gtt_9 172 rfl rfl
theorem tw2245 : Cond.instanceMethod yX12_peek ∈ gtbl := gtt_9 173 rfl rfl
theorem tw2246 : Cond.selects "BundleFenceModel" yX12_peek yX12_peek ∈ gtbl := gtt_9 174 rfl rfl
theorem tw2247 : Cond.code yX12_peek cX12_peek 2 (some .int) ∈ gtbl := gtt_9 175 rfl rfl
theorem tw2260 : Cond.methodLink RL 109 yX12_give ∈ gtbl := gtt_9 188 rfl rfl
theorem tw2261 : Cond.instanceMethod yX12_give ∈ gtbl := gtt_9 189 rfl rfl
theorem tw2262 : Cond.selects "BundleFenceModel" yX12_give yX12_give ∈ gtbl := gtt_9 190 rfl rfl
theorem tw2263 : Cond.code yX12_give cX12_give 5 (some .int) ∈ gtbl := gtt_9 191 rfl rfl
theorem tw2264 : Cond.methodLink RL 113 yX12_begin ∈ gtbl := gtt_9 192 rfl rfl
theorem tw2265 : Cond.instanceMethod yX12_begin ∈ gtbl := gtt_9 193 rfl rfl
theorem tw2266 : Cond.selects "BundleFenceModel" yX12_begin yX12_begin ∈ gtbl := gtt_9 194 rfl rfl
theorem tw2267 : Cond.code yX12_begin cX12_begin 3 none ∈ gtbl := gtt_9 195 rfl rfl
theorem tw2268 : Cond.methodLink RL 117 yX12_run ∈ gtbl := gtt_9 196 rfl rfl
theorem tw2269 : Cond.instanceMethod yX12_run ∈ gtbl := gtt_9 197 rfl rfl
theorem tw2270 : Cond.selects "BundleFenceModel" yX12_run yX12_run ∈ gtbl := gtt_9 198 rfl rfl
theorem tw2271 : Cond.code yX12_run cX12_run 6 (some .int) ∈ gtbl := gtt_9 199 rfl rfl
theorem tw2401 : Cond.methodLink RL 121 yX12_stop ∈ gtbl := gtt_10 89 rfl rfl
theorem tw2402 : Cond.instanceMethod yX12_stop ∈ gtbl := gtt_10 90 rfl rfl
theorem tw2403 : Cond.selects "BundleFenceModel" yX12_stop yX12_stop ∈ gtbl := gtt_10 91 rfl rfl
theorem tw2404 : Cond.code yX12_stop cX12_stop 4 (some .boolean) ∈ gtbl := gtt_10 92 rfl rfl
theorem tw2405 : Cond.methodLink RL 124 yX12_told ∈ gtbl := gtt_10 93 rfl rfl
theorem tw2406 : Cond.instanceMethod yX12_told ∈ gtbl := gtt_10 94 rfl rfl
theorem tw2407 : Cond.selects "BundleFenceModel" yX12_told yX12_told ∈ gtbl := gtt_10 95 rfl rfl
theorem tw2408 : Cond.code yX12_told cX12_told 2 (some .int) ∈ gtbl := gtt_10 96 rfl rfl
theorem tw2409 : Cond.methodLink RL 129 yX12_steps ∈ gtbl := gtt_10 97 rfl rfl
theorem tw2410 : Cond.instanceMethod yX12_steps ∈ gtbl := gtt_10 98 rfl rfl
theorem tw2411 : Cond.selects "BundleFenceModel" yX12_steps yX12_steps ∈ gtbl := gtt_10 99 rfl rfl
theorem tw2412 : Cond.code yX12_steps cX12_steps 1 (some .long) ∈ gtbl := gtt_10 100 rfl rfl
theorem tw2413 : Cond.methodLink RL 132 yX12_register ∈ gtbl := gtt_10 101 rfl rfl
theorem tw2414 : Cond.instanceMethod yX12_register ∈ gtbl := gtt_10 102 rfl rfl
theorem tw2415 : Cond.selects "BundleFenceModel" yX12_register yX12_register ∈ gtbl := gtt_10 103 rfl rfl
theorem tw2416 : Cond.code yX12_register cX12_register 2 (some .int) ∈ gtbl := gtt_10 104 rfl rfl
theorem tw2417 : Cond.methodLink RL 135 yX12_put ∈ gtbl := gtt_10 105 rfl rfl
theorem tw2418 : Cond.instanceMethod yX12_put ∈ gtbl := gtt_10 106 rfl rfl
theorem tw2419 : Cond.selects "BundleFenceModel" yX12_put yX12_put ∈ gtbl := gtt_10 107 rfl rfl
theorem tw2420 : Cond.code yX12_put cX12_put 4 (some .int) ∈ gtbl := gtt_10 108 rfl rfl
theorem tw2421 : Cond.methodLink RL 139 yX12_output ∈ gtbl := gtt_10 109 rfl rfl
theorem tw2422 : Cond.instanceMethod yX12_output ∈ gtbl := gtt_10 110 rfl rfl
theorem tw2423 : Cond.selects "BundleFenceModel" yX12_output yX12_output ∈ gtbl := gtt_10 111 rfl rfl
theorem tw2424 : Cond.code yX12_output cX12_output 2 (some .int) ∈ gtbl := gtt_10 112 rfl rfl
theorem tw2425 : Cond.methodLink RL 142 yX12_passed ∈ gtbl := gtt_10 113 rfl rfl
theorem tw2426 : Cond.instanceMethod yX12_passed ∈ gtbl := gtt_10 114 rfl rfl
theorem tw2427 : Cond.selects "BundleFenceModel" yX12_passed yX12_passed ∈ gtbl := gtt_10 115 rfl rfl
theorem tw2428 : Cond.code yX12_passed cX12_passed 2 (some .int) ∈ gtbl := gtt_10 116 rfl rfl
theorem tw2429 : Cond.constantLong RL 54 4294967295 ∈ gtbl := gtt_10 117 rfl rfl
theorem mkX12_feed : xMkV mX12_feed 2 := ⟨⟨tw2228, tw169, ⟨by decide, by decide⟩, by decide +kernel⟩, tw2226, tw2227⟩
theorem mkX12_thrown : xMkV mX12_thrown 0 := ⟨⟨tw2050, tw169, ⟨by decide, by decide⟩, by decide +kernel⟩, tw2048, tw2049⟩
theorem mkX11_wipe : xMkV mX11_wipe 0 := ⟨⟨tw605, tw153, ⟨by decide, by decide⟩, by decide +kernel⟩, tw603, tw604⟩
theorem mkX12_wipe : xMkV mX12_wipe 0 := ⟨⟨tw2238, tw169, ⟨by decide, by decide⟩, by decide +kernel⟩, tw2236, tw2237⟩
theorem mkX11_look : xMkV mX11_look 0 := ⟨⟨tw617, tw153, ⟨by decide, by decide⟩, by decide +kernel⟩, tw615, tw616⟩
theorem mkX12_look : xMkV mX12_look 0 := ⟨⟨tw2054, tw169, ⟨by decide, by decide⟩, by decide +kernel⟩, tw2052, tw2053⟩
theorem mkX11_fault : xMkV mX11_fault 0 := ⟨⟨tw940, tw153, ⟨by decide, by decide⟩, by decide +kernel⟩, tw938, tw939⟩
theorem mkX12_fault : xMkV mX12_fault 0 := ⟨⟨tw2171, tw169, ⟨by decide, by decide⟩, by decide +kernel⟩, tw2169, tw2170⟩
theorem mkX11_place : xMkV mX11_place 0 := ⟨⟨tw944, tw153, ⟨by decide, by decide⟩, by decide +kernel⟩, tw942, tw943⟩
theorem mkX12_place_ : xMkV mX12_place_ 0 := ⟨⟨tw2175, tw169, ⟨by decide, by decide⟩, by decide +kernel⟩, tw2173, tw2174⟩
theorem mkX11_unit : xMkV mX11_unit 1 := ⟨⟨tw948, tw153, ⟨by decide, by decide⟩, by decide +kernel⟩, tw946, tw947⟩
theorem mkX12_unit : xMkV mX12_unit 1 := ⟨⟨tw2179, tw169, ⟨by decide, by decide⟩, by decide +kernel⟩, tw2177, tw2178⟩
theorem mkX11_size : xMkV mX11_size 1 := ⟨⟨tw954, tw153, ⟨by decide, by decide⟩, by decide +kernel⟩, tw952, tw953⟩
theorem mkX12_size : xMkV mX12_size 1 := ⟨⟨tw2183, tw169, ⟨by decide, by decide⟩, by decide +kernel⟩, tw2181, tw2182⟩
theorem mkX11_tell : xMkV mX11_tell 1 := ⟨⟨tw959, tw153, ⟨by decide, by decide⟩, by decide +kernel⟩, tw957, tw958⟩
theorem mkX12_tell : xMkV mX12_tell 1 := ⟨⟨tw2187, tw169, ⟨by decide, by decide⟩, by decide +kernel⟩, tw2185, tw2186⟩
theorem mkX11_text : xMkV mX11_text 1 := ⟨⟨tw1414, tw153, ⟨by decide, by decide⟩, by decide +kernel⟩, tw1412, tw1413⟩
theorem mkX12_text : xMkV mX12_text 1 := ⟨⟨tw2223, tw169, ⟨by decide, by decide⟩, by decide +kernel⟩, tw2221, tw2222⟩
theorem mkX12_poke : xMkV mX12_poke 2 := ⟨⟨tw2242, tw169, ⟨by decide, by decide⟩, by decide +kernel⟩, tw2240, tw2241⟩
theorem mkX11_peek : xMkV mX11_peek 1 := ⟨⟨tw1432, tw153, ⟨by decide, by decide⟩, by decide +kernel⟩, tw1430, tw1431⟩
theorem mkX12_peek : xMkV mX12_peek 1 := ⟨⟨tw2247, tw169, ⟨by decide, by decide⟩, by decide +kernel⟩, tw2245, tw2246⟩
theorem mkX12_give : xMkV mX12_give 2 := ⟨⟨tw2263, tw169, ⟨by decide, by decide⟩, by decide +kernel⟩, tw2261, tw2262⟩
theorem mkX12_begin : xMkV mX12_begin 1 := ⟨⟨tw2267, tw169, ⟨by decide, by decide⟩, by decide +kernel⟩, tw2265, tw2266⟩
theorem mkX12_run : xMkV mX12_run 1 := ⟨⟨tw2271, tw169, ⟨by decide, by decide⟩, by decide +kernel⟩, tw2269, tw2270⟩
theorem mkX12_stop : xMkV mX12_stop 2 := ⟨⟨tw2404, tw169, ⟨by decide, by decide⟩, by decide +kernel⟩, tw2402, tw2403⟩
theorem mkX12_told : xMkV mX12_told 1 := ⟨⟨tw2408, tw169, ⟨by decide, by decide⟩, by decide +kernel⟩, tw2406, tw2407⟩
theorem mkX11_steps : xMkV mX11_steps 0 := ⟨⟨tw1442, tw153, ⟨by decide, by decide⟩, by decide +kernel⟩, tw1440, tw1441⟩
theorem mkX12_steps : xMkV mX12_steps 0 := ⟨⟨tw2412, tw169, ⟨by decide, by decide⟩, by decide +kernel⟩, tw2410, tw2411⟩
theorem mkX12_register : xMkV mX12_register 1 := ⟨⟨tw2416, tw169, ⟨by decide, by decide⟩, by decide +kernel⟩, tw2414, tw2415⟩
theorem mkX12_put : xMkV mX12_put 2 := ⟨⟨tw2420, tw169, ⟨by decide, by decide⟩, by decide +kernel⟩, tw2418, tw2419⟩
theorem mkX11_output : xMkV mX11_output 1 := ⟨⟨tw1446, tw153, ⟨by decide, by decide⟩, by decide +kernel⟩, tw1444, tw1445⟩
theorem mkX12_output : xMkV mX12_output 1 := ⟨⟨tw2424, tw169, ⟨by decide, by decide⟩, by decide +kernel⟩, tw2422, tw2423⟩
theorem mkX12_passed : xMkV mX12_passed 1 := ⟨⟨tw2428, tw169, ⟨by decide, by decide⟩, by decide +kernel⟩, tw2426, tw2427⟩
section LAWB
variable {p : Program} {l : Launch} {e : Env} {s : State} {m : MethodId} {args : Array Value} {below : List Frame} {meth : Method} {c : Code} {H : Heap} {locs : List Loc} {cells slots : Nat} {Q : State → Prop} {pc : Nat} {ls : Array Slot} {rest : List Value} {cc : ByteArray}
variable {Gc Gm : xG} {wc wm : xW} {ex : va_W} {A : Nat → Prop} {o : Nat} {f : Nat → Int64} {R : Room}
theorem law_arg {k b L i n0 n4 : Nat} {kk : Int} {xs : Nat → Int32} {lv : List (Nat × Value)} (X : LX p l s m args c cc Gc Gm A) (hXs : va_X b L xs s s.heap) (hbl : b < s.heap.size) (hbA : ¬ A b) (hS : va_S A s.heap H locs) (hl : lv_has ls 7 lv) (h0 : lv[n0]? = some (0, .ref b)) (h4 : lv[n4]? = some (4, .int (nI i))) (hk : i + k < L) (hL : L ≤ 256) (hk9 : k < 10) (hkk : Int32.ofInt kk = nI k)
    (d0 : decode cc pc = .ok (.aload_n 0, 1)) (d1 : decode cc (pc + 1) = .ok (.iload 4, 2)) (d2 : decode cc (pc + 1 + 2) = .ok (.iconst kk, 1)) (d3 : decode cc (pc + 1 + 2 + 1) = .ok (.iadd, 1)) (d4 : decode cc (pc + 1 + 2 + 1 + 1) = .ok (.iaload, 1))
    (kk9 : W p l e R s m args below meth c H locs cells slots Q (F0 m (pc + 1 + 2 + 1 + 1 + 1) ls (.int (xs (i + k)) :: rest))) : W p l e R s m args below meth c H locs cells slots Q (F0 m pc ls rest) := by
  refine lv_aload_n X.1.1 X.1.2.1 d0 rfl (lv_at hl n0 h0) ?_
  refine lv_iload X.1.1 X.1.2.1 d1 (lv_at hl n4 h4) ?_
  refine lv_iconst (v := nI k) X.1.1 X.1.2.1 d2 hkk ?_
  refine lv_iadd X.1.1 X.1.2.1 d3 ?_
  rw [nI_add]
  refine va_sld X.1.1 X.1.2.1 hXs hbl hbA hS (xin_vp (xin_n (k := i + k) (n := L) hk (by omega))) d4 ?_
  rw [nI_clamp (by omega)]
  exact kk9
theorem law_lcmp {x y : Int64} (hx : p.tables.exec = Jvm.exec) (hb : c.code = cc) (hd : decode cc pc = .ok (.lcmp, 1)) (k : W p l e R s m args below meth c H locs cells slots Q (F0 m (pc + 1) ls (.int (lg_cmp x y) :: rest))) : W p l e R s m args below meth c H locs cells slots Q (F0 m pc ls (.long y :: .long x :: rest)) := by
  exact W.lcmp hx hb hd k
theorem law_out (X : LX p l s m args c cc Gc Gm A) (P : lwP Gc Gm o f wc wm ex A s.heap H locs) (hd : decode cc pc = .ok (.laload, 1)) (k : W p l e R s m args below meth c H locs cells slots Q (F0 m (pc + 1) ls (.long (f 0) :: rest))) : W p l e R s m args below meth c H locs cells slots Q (F0 m pc ls (.int 0 :: .ref o :: rest)) :=
  va_lald X.1.1 X.1.2.1 X.2.2.1.1 P.2.1 0 3 (cA := Gc.2.1 3) (n := 1) (f := f) rfl rfl (xin_vp (show xin (0 : Int32) 1 from by decide)) hd k
end LAWB
section LAWC
variable {p : Program} {l : Launch} {e : Env} {s : State} {m : MethodId} {args : Array Value} {below : List Frame} {meth : Method} {c : Code} {H : Heap} {locs : List Loc} {cells slots : Nat} {Q : State → Prop} {ls : Array Slot}
variable {Gc Gm : xG} {wc wm : xW} {ex : va_W} {A : Nat → Prop} {o b L i : Nat} {f : Nat → Int64} {xs : Nat → Int32} {B : Nat → Int32} {N : Nat}
set_option maxHeartbeats 2000000 in
theorem law_0 (X : LX p l s m args c cL_law Gc Gm A) (hXs : va_X b L xs s s.heap) (hbl : b < s.heap.size) (hbA : ¬ A b) (hiL : i + 3 < L) (hL : L ≤ 256) (P0 : lwP Gc Gm o f wc wm ex A s.heap H locs) (hKR : KR B N wc wm) (hl : lv_has ls 7 [(0, .ref b), (1, .ref (Gc.2.2 0)), (2, .ref (Gm.2.2 0)), (3, .ref o), (4, .int (nI i))]) (hcl : cells + 26 ≤ 600128) (hsl : slots + 7884 ≤ 7301098)
    (hk : ∀ (B N : _) (wc wm : xW) (ex : va_W) (f : Nat → Int64) (H : Heap) (locs : List Loc) (ls : Array Slot) (cl sl : Nat), lwP Gc Gm o f wc wm ex A s.heap H locs → KR B N wc wm → lv_has ls 7 [(0, .ref b), (1, .ref (Gc.2.2 0)), (2, .ref (Gm.2.2 0)), (3, .ref o), (4, .int (nI i))] → cl ≤ cells + 26 → sl ≤ slots + 7884 → W p l e room_1 s m args below meth c H locs cl sl Q (F0 m 1056 ls [])) :
    W p l e room_1 s m args below meth c H locs cells slots Q (F0 m 136 ls []) := by
  rcases feed_p hKR (xs (i + 1)) (((xs (i + 2)).toInt64 <<< ((32 : Int32).toInt64 &&& 63)) ||| ((xs (i + 3)).toInt64 &&& (4294967295 : Int64))) with ⟨v, wc1, wm1, B1, N1, e1, e2, hKR1, ht0⟩ | ⟨pcx, cx, v, wm1, B1, N1, hmem, e1, e2, hKR1, ht0⟩
  · refine lv_aload_n X.1.1 X.1.2.1 dL_law_136 rfl (lv_at hl 1 rfl) ?_
    refine law_arg (k := 1) (n0 := 0) (n4 := 4) X hXs hbl hbA P0.2.2.2.2.1 hl rfl rfl (by omega) hL (by decide) (by decide) dL_law_137 dL_law_138 dL_law_140 dL_law_141 dL_law_142 ?_
    refine law_arg (k := 2) (n0 := 0) (n4 := 4) X hXs hbl hbA P0.2.2.2.2.1 hl rfl rfl (by omega) hL (by decide) (by decide) dL_law_143 dL_law_144 dL_law_146 dL_law_147 dL_law_148 ?_
    refine lv_i2l X.1.1 X.1.2.1 dL_law_149 rfl ?_
    refine lv_bipush (v := 32) X.1.1 X.1.2.1 dL_law_150 (by decide) ?_
    refine lv_lshl X.1.1 X.1.2.1 dL_law_152 rfl ?_
    refine law_arg (k := 3) (n0 := 0) (n4 := 4) X hXs hbl hbA P0.2.2.2.2.1 hl rfl rfl (by omega) hL (by decide) (by decide) dL_law_153 dL_law_154 dL_law_156 dL_law_157 dL_law_158 ?_
    refine lv_i2l X.1.1 X.1.2.1 dL_law_159 rfl ?_
    refine lv_ldc2 (v := 4294967295) X.1.1 X.1.2.1 X.1.2.2.2.1 (X.1.2.2.2.2 _ tw2429) dL_law_160 ?_
    refine lv_land X.1.1 X.1.2.1 dL_law_163 ?_
    refine lv_lor X.1.1 X.1.2.1 dL_law_164 ?_
    refine lv_aload_n X.1.1 X.1.2.1 dL_law_165 rfl (lv_at hl 3 rfl) ?_
    refine law_h (n := 4) (idx := 56) (rest := []) X P0 dL_law_166 (hL_feed_r e1) tw1453 tw152 tw1452 tw1451 ⟨⟨by decide, by decide⟩, by decide +kernel⟩ ⟨Nat.le_of_ble_eq_true rfl, Nat.le_of_ble_eq_true rfl⟩ rfl hl.1 rfl (Nat.le_of_ble_eq_true rfl) (by show _ + 1 ≤ 600128; omega) (by show _ + 6 ≤ 7301098; omega) (fun H0 locs0 ex0 f0 hf0 P0 => ?_)
    show W p l e room_1 s m args below meth c _ _ _ _ Q (F0 m 169 _ [.int 0])
    refine lv_istore (nL := 7) (lv' := [(5, .int 0), (0, .ref b), (1, .ref (Gc.2.2 0)), (2, .ref (Gm.2.2 0)), (3, .ref o), (4, .int (nI i))]) X.1.1 X.1.2.1 dL_law_169 hl (by decide) rfl (fun ls5 hl5 => ?_)
    refine lv_aload_n X.1.1 X.1.2.1 dL_law_171 rfl (lv_at hl5 3 rfl) ?_
    refine law_arg (k := 1) (n0 := 1) (n4 := 5) X hXs hbl hbA P0.2.2.2.2.1 hl5 rfl rfl (by omega) hL (by decide) (by decide) dL_law_172 dL_law_173 dL_law_175 dL_law_176 dL_law_177 ?_
    refine law_arg (k := 2) (n0 := 1) (n4 := 5) X hXs hbl hbA P0.2.2.2.2.1 hl5 rfl rfl (by omega) hL (by decide) (by decide) dL_law_178 dL_law_179 dL_law_181 dL_law_182 dL_law_183 ?_
    refine lv_i2l X.1.1 X.1.2.1 dL_law_184 rfl ?_
    refine lv_bipush (v := 32) X.1.1 X.1.2.1 dL_law_185 (by decide) ?_
    refine lv_lshl X.1.1 X.1.2.1 dL_law_187 rfl ?_
    refine law_arg (k := 3) (n0 := 1) (n4 := 5) X hXs hbl hbA P0.2.2.2.2.1 hl5 rfl rfl (by omega) hL (by decide) (by decide) dL_law_188 dL_law_189 dL_law_191 dL_law_192 dL_law_193 ?_
    refine lv_i2l X.1.1 X.1.2.1 dL_law_194 rfl ?_
    refine lv_ldc2 (v := 4294967295) X.1.1 X.1.2.1 X.1.2.2.2.1 (X.1.2.2.2.2 _ tw2429) dL_law_195 ?_
    refine lv_land X.1.1 X.1.2.1 dL_law_198 ?_
    refine lv_lor X.1.1 X.1.2.1 dL_law_199 ?_
    refine law_m (jc := jI) (v := v) (w1 := wm1) (M2 := mX12_feed) (n := 2) (idx := 61) (b2 := (0, 0)) (argv := [.int (xs (i + 1)), .long (((xs (i + 2)).toInt64 <<< ((32 : Int32).toInt64 &&& 63)) ||| ((xs (i + 3)).toInt64 &&& (4294967295 : Int64)))]) (rest := []) X P0 dL_law_200 (by rw [← e2]; exact kX12_feed (xs (i + 1)) (((xs (i + 2)).toInt64 <<< ((32 : Int32).toInt64 &&& 63)) ||| ((xs (i + 3)).toInt64 &&& (4294967295 : Int64))) _) mkX12_feed tw2225 rfl ⟨Nat.le_of_ble_eq_true rfl, Nat.le_of_ble_eq_true rfl, rfl, rfl⟩ rfl hl5.1 rfl (Nat.le_of_ble_eq_true rfl) (by show _ + 0 ≤ 600128; omega) (by show _ + 0 ≤ 7301098; omega) (fun H1 locs1 P1 => ?_)
    show W p l e room_1 s m args below meth c _ _ _ _ Q (F0 m 203 _ [.int v])
    refine lv_istore (nL := 7) (lv' := [(6, .int v), (5, .int 0), (0, .ref b), (1, .ref (Gc.2.2 0)), (2, .ref (Gm.2.2 0)), (3, .ref o), (4, .int (nI i))]) X.1.1 X.1.2.1 dL_law_203 hl5 (by decide) rfl (fun ls6 hl6 => ?_)
    refine lv_aload_n X.1.1 X.1.2.1 dL_law_205 rfl (lv_at hl6 4 rfl) ?_
    refine law_m (jc := jI) (v := 0) (w1 := wm1) (M2 := mX12_thrown) (n := 0) (idx := 62) (b2 := (0, 0)) (argv := []) (rest := []) X P1 dL_law_206 (by have h9 := kX12_thrown wm1; unfold sX12_thrown at h9; rw [ht0] at h9; exact h9) mkX12_thrown tw2047 rfl ⟨Nat.le_of_ble_eq_true rfl, Nat.le_of_ble_eq_true rfl, rfl, rfl⟩ rfl hl6.1 rfl (Nat.le_of_ble_eq_true rfl) (by show _ + 0 ≤ 600128; omega) (by show _ + 0 ≤ 7301098; omega) (fun H2 locs2 P2 => ?_)
    show W p l e room_1 s m args below meth c _ _ _ _ Q (F0 m 209 _ [.int 0])
    refine lv_iload X.1.1 X.1.2.1 dL_law_209 (lv_at hl6 1 rfl) ?_
    refine lv_icmp_eq (tgt := 216) X.1.1 X.1.2.1 dL_law_211 (by decide) (fun _ => ?_) (fun q9 => absurd rfl q9)
    refine lv_iload X.1.1 X.1.2.1 dL_law_216 (lv_at hl6 1 rfl) ?_
    refine lv_if_ne (tgt := 233) X.1.1 X.1.2.1 dL_law_218 (by decide) (fun q9 => absurd rfl q9) (fun _ => ?_)
    refine lv_aload_n X.1.1 X.1.2.1 dL_law_221 rfl (lv_at hl6 5 rfl) ?_
    refine lv_iconst (v := 0) X.1.1 X.1.2.1 dL_law_222 (by decide) ?_
    refine law_out X P2 dL_law_223 ?_
    refine lv_iload X.1.1 X.1.2.1 dL_law_224 (lv_at hl6 0 rfl) ?_
    refine lv_i2l X.1.1 X.1.2.1 dL_law_226 rfl ?_
    refine law_lcmp X.1.1 X.1.2.1 dL_law_227 ?_
    refine lv_if_eq (tgt := 233) X.1.1 X.1.2.1 dL_law_228 (by decide) (fun _ => ?_) (fun q9 => absurd ((lgc _ _).1.mpr hf0) q9)
    refine lv_goto (tgt := 1056) X.1.1 X.1.2.1 dL_law_233 (by decide) ?_
    exact hk B1 N1 wc1 wm1 ex0 f0 _ _ _ _ _ P2 hKR1 (lv_sub hl6 [2, 3, 4, 5, 6] rfl) (by show _ ≤ cells + 26; omega) (by show _ ≤ slots + 7884; omega)
  · simp only [List.mem_cons, Prod.mk.injEq, List.not_mem_nil, or_false] at hmem
    rcases hmem with ⟨rfl, rfl⟩
    refine lv_aload_n X.1.1 X.1.2.1 dL_law_136 rfl (lv_at hl 1 rfl) ?_
    refine law_arg (k := 1) (n0 := 0) (n4 := 4) X hXs hbl hbA P0.2.2.2.2.1 hl rfl rfl (by omega) hL (by decide) (by decide) dL_law_137 dL_law_138 dL_law_140 dL_law_141 dL_law_142 ?_
    refine law_arg (k := 2) (n0 := 0) (n4 := 4) X hXs hbl hbA P0.2.2.2.2.1 hl rfl rfl (by omega) hL (by decide) (by decide) dL_law_143 dL_law_144 dL_law_146 dL_law_147 dL_law_148 ?_
    refine lv_i2l X.1.1 X.1.2.1 dL_law_149 rfl ?_
    refine lv_bipush (v := 32) X.1.1 X.1.2.1 dL_law_150 (by decide) ?_
    refine lv_lshl X.1.1 X.1.2.1 dL_law_152 rfl ?_
    refine law_arg (k := 3) (n0 := 0) (n4 := 4) X hXs hbl hbA P0.2.2.2.2.1 hl rfl rfl (by omega) hL (by decide) (by decide) dL_law_153 dL_law_154 dL_law_156 dL_law_157 dL_law_158 ?_
    refine lv_i2l X.1.1 X.1.2.1 dL_law_159 rfl ?_
    refine lv_ldc2 (v := 4294967295) X.1.1 X.1.2.1 X.1.2.2.2.1 (X.1.2.2.2.2 _ tw2429) dL_law_160 ?_
    refine lv_land X.1.1 X.1.2.1 dL_law_163 ?_
    refine lv_lor X.1.1 X.1.2.1 dL_law_164 ?_
    refine lv_aload_n X.1.1 X.1.2.1 dL_law_165 rfl (lv_at hl 3 rfl) ?_
    refine law_h (n := 4) (idx := 56) (rest := []) X P0 dL_law_166 (hL_feed_t11 e1) tw1453 tw152 tw1452 tw1451 ⟨⟨by decide, by decide⟩, by decide +kernel⟩ ⟨Nat.le_of_ble_eq_true rfl, Nat.le_of_ble_eq_true rfl⟩ rfl hl.1 rfl (Nat.le_of_ble_eq_true rfl) (by show _ + 1 ≤ 600128; omega) (by show _ + 6 ≤ 7301098; omega) (fun H0 locs0 ex0 f0 hf0 P0 => ?_)
    show W p l e room_1 s m args below meth c _ _ _ _ Q (F0 m 169 _ [.int 1])
    refine lv_istore (nL := 7) (lv' := [(5, .int 1), (0, .ref b), (1, .ref (Gc.2.2 0)), (2, .ref (Gm.2.2 0)), (3, .ref o), (4, .int (nI i))]) X.1.1 X.1.2.1 dL_law_169 hl (by decide) rfl (fun ls5 hl5 => ?_)
    refine lv_aload_n X.1.1 X.1.2.1 dL_law_171 rfl (lv_at hl5 3 rfl) ?_
    refine law_arg (k := 1) (n0 := 1) (n4 := 5) X hXs hbl hbA P0.2.2.2.2.1 hl5 rfl rfl (by omega) hL (by decide) (by decide) dL_law_172 dL_law_173 dL_law_175 dL_law_176 dL_law_177 ?_
    refine law_arg (k := 2) (n0 := 1) (n4 := 5) X hXs hbl hbA P0.2.2.2.2.1 hl5 rfl rfl (by omega) hL (by decide) (by decide) dL_law_178 dL_law_179 dL_law_181 dL_law_182 dL_law_183 ?_
    refine lv_i2l X.1.1 X.1.2.1 dL_law_184 rfl ?_
    refine lv_bipush (v := 32) X.1.1 X.1.2.1 dL_law_185 (by decide) ?_
    refine lv_lshl X.1.1 X.1.2.1 dL_law_187 rfl ?_
    refine law_arg (k := 3) (n0 := 1) (n4 := 5) X hXs hbl hbA P0.2.2.2.2.1 hl5 rfl rfl (by omega) hL (by decide) (by decide) dL_law_188 dL_law_189 dL_law_191 dL_law_192 dL_law_193 ?_
    refine lv_i2l X.1.1 X.1.2.1 dL_law_194 rfl ?_
    refine lv_ldc2 (v := 4294967295) X.1.1 X.1.2.1 X.1.2.2.2.1 (X.1.2.2.2.2 _ tw2429) dL_law_195 ?_
    refine lv_land X.1.1 X.1.2.1 dL_law_198 ?_
    refine lv_lor X.1.1 X.1.2.1 dL_law_199 ?_
    refine law_m (jc := jI) (v := v) (w1 := wm1) (M2 := mX12_feed) (n := 2) (idx := 61) (b2 := (0, 0)) (argv := [.int (xs (i + 1)), .long (((xs (i + 2)).toInt64 <<< ((32 : Int32).toInt64 &&& 63)) ||| ((xs (i + 3)).toInt64 &&& (4294967295 : Int64)))]) (rest := []) X P0 dL_law_200 (by rw [← e2]; exact kX12_feed (xs (i + 1)) (((xs (i + 2)).toInt64 <<< ((32 : Int32).toInt64 &&& 63)) ||| ((xs (i + 3)).toInt64 &&& (4294967295 : Int64))) _) mkX12_feed tw2225 rfl ⟨Nat.le_of_ble_eq_true rfl, Nat.le_of_ble_eq_true rfl, rfl, rfl⟩ rfl hl5.1 rfl (Nat.le_of_ble_eq_true rfl) (by show _ + 0 ≤ 600128; omega) (by show _ + 0 ≤ 7301098; omega) (fun H1 locs1 P1 => ?_)
    show W p l e room_1 s m args below meth c _ _ _ _ Q (F0 m 203 _ [.int v])
    refine lv_istore (nL := 7) (lv' := [(6, .int v), (5, .int 1), (0, .ref b), (1, .ref (Gc.2.2 0)), (2, .ref (Gm.2.2 0)), (3, .ref o), (4, .int (nI i))]) X.1.1 X.1.2.1 dL_law_203 hl5 (by decide) rfl (fun ls6 hl6 => ?_)
    refine lv_aload_n X.1.1 X.1.2.1 dL_law_205 rfl (lv_at hl6 4 rfl) ?_
    refine law_m (jc := jI) (v := 1) (w1 := wm1) (M2 := mX12_thrown) (n := 0) (idx := 62) (b2 := (0, 0)) (argv := []) (rest := []) X P1 dL_law_206 (by have h9 := kX12_thrown wm1; unfold sX12_thrown at h9; rw [ht0] at h9; exact h9) mkX12_thrown tw2047 rfl ⟨Nat.le_of_ble_eq_true rfl, Nat.le_of_ble_eq_true rfl, rfl, rfl⟩ rfl hl6.1 rfl (Nat.le_of_ble_eq_true rfl) (by show _ + 0 ≤ 600128; omega) (by show _ + 0 ≤ 7301098; omega) (fun H2 locs2 P2 => ?_)
    show W p l e room_1 s m args below meth c _ _ _ _ Q (F0 m 209 _ [.int 1])
    refine lv_iload X.1.1 X.1.2.1 dL_law_209 (lv_at hl6 1 rfl) ?_
    refine lv_icmp_eq (tgt := 216) X.1.1 X.1.2.1 dL_law_211 (by decide) (fun _ => ?_) (fun q9 => absurd rfl q9)
    refine lv_iload X.1.1 X.1.2.1 dL_law_216 (lv_at hl6 1 rfl) ?_
    refine lv_if_ne (tgt := 233) X.1.1 X.1.2.1 dL_law_218 (by decide) (fun _ => ?_) (fun q9 => absurd q9 (by decide))
    refine lv_goto (tgt := 1056) X.1.1 X.1.2.1 dL_law_233 (by decide) ?_
    exact hk B1 N1 wc wm1 ex0 f0 _ _ _ _ _ P2 hKR1 (lv_sub hl6 [2, 3, 4, 5, 6] rfl) (by show _ ≤ cells + 26; omega) (by show _ ≤ slots + 7884; omega)
set_option maxHeartbeats 2000000 in
theorem law_1 (X : LX p l s m args c cL_law Gc Gm A) (hXs : va_X b L xs s s.heap) (hbl : b < s.heap.size) (hbA : ¬ A b) (hiL : i + 3 < L) (hL : L ≤ 256) (P0 : lwP Gc Gm o f wc wm ex A s.heap H locs) (hKR : KR B N wc wm) (hl : lv_has ls 7 [(0, .ref b), (1, .ref (Gc.2.2 0)), (2, .ref (Gm.2.2 0)), (3, .ref o), (4, .int (nI i))]) (hcl : cells + 26 ≤ 600128) (hsl : slots + 7884 ≤ 7301098)
    (hk : ∀ (B N : _) (wc wm : xW) (ex : va_W) (f : Nat → Int64) (H : Heap) (locs : List Loc) (ls : Array Slot) (cl sl : Nat), lwP Gc Gm o f wc wm ex A s.heap H locs → KR B N wc wm → lv_has ls 7 [(0, .ref b), (1, .ref (Gc.2.2 0)), (2, .ref (Gm.2.2 0)), (3, .ref o), (4, .int (nI i))] → cl ≤ cells + 26 → sl ≤ slots + 7884 → W p l e room_1 s m args below meth c H locs cl sl Q (F0 m 1056 ls [])) :
    W p l e room_1 s m args below meth c H locs cells slots Q (F0 m 236 ls []) := by
  obtain ⟨v, wc1, wm1, B1, N1, e1, e2, hKR1⟩ := wipe_p hKR 
  refine lv_aload_n X.1.1 X.1.2.1 dL_law_236 rfl (lv_at hl 1 rfl) ?_
  refine law_c (jc := jI) (v := v) (w1 := wc1) (M2 := mX11_wipe) (n := 0) (idx := 66) (b2 := (0, 0)) (argv := []) (rest := []) X P0 dL_law_237 (by rw [← e1]; exact kX11_wipe  _) mkX11_wipe tw602 rfl ⟨Nat.le_of_ble_eq_true rfl, Nat.le_of_ble_eq_true rfl, rfl, rfl⟩ rfl hl.1 rfl (Nat.le_of_ble_eq_true rfl) (by show _ + 0 ≤ 600128; omega) (by show _ + 0 ≤ 7301098; omega) (fun H0 locs0 ex0 P0 => ?_)
  show W p l e room_1 s m args below meth c _ _ _ _ Q (F0 m 240 _ [.int v])
  refine lv_aload_n X.1.1 X.1.2.1 dL_law_240 rfl (lv_at hl 2 rfl) ?_
  refine law_m (jc := jI) (v := v) (w1 := wm1) (M2 := mX12_wipe) (n := 0) (idx := 69) (b2 := (0, 0)) (argv := []) (rest := [.int v]) X P0 dL_law_241 (by rw [← e2]; exact kX12_wipe  _) mkX12_wipe tw2235 rfl ⟨Nat.le_of_ble_eq_true rfl, Nat.le_of_ble_eq_true rfl, rfl, rfl⟩ rfl hl.1 rfl (Nat.le_of_ble_eq_true rfl) (by show _ + 0 ≤ 600128; omega) (by show _ + 0 ≤ 7301098; omega) (fun H1 locs1 P1 => ?_)
  show W p l e room_1 s m args below meth c _ _ _ _ Q (F0 m 244 _ [.int v, .int v])
  refine lv_icmp_eq (tgt := 1056) X.1.1 X.1.2.1 dL_law_244 (by decide) (fun _ => ?_) (fun q9 => absurd rfl q9)
  exact hk B1 N1 wc1 wm1 ex0 f _ _ _ _ _ P1 hKR1 hl (by show _ ≤ cells + 26; omega) (by show _ ≤ slots + 7884; omega)
set_option maxHeartbeats 2000000 in
theorem law_2 (X : LX p l s m args c cL_law Gc Gm A) (hXs : va_X b L xs s s.heap) (hbl : b < s.heap.size) (hbA : ¬ A b) (hiL : i + 3 < L) (hL : L ≤ 256) (P0 : lwP Gc Gm o f wc wm ex A s.heap H locs) (hKR : KR B N wc wm) (hl : lv_has ls 7 [(0, .ref b), (1, .ref (Gc.2.2 0)), (2, .ref (Gm.2.2 0)), (3, .ref o), (4, .int (nI i))]) (hcl : cells + 26 ≤ 600128) (hsl : slots + 7884 ≤ 7301098)
    (hk : ∀ (B N : _) (wc wm : xW) (ex : va_W) (f : Nat → Int64) (H : Heap) (locs : List Loc) (ls : Array Slot) (cl sl : Nat), lwP Gc Gm o f wc wm ex A s.heap H locs → KR B N wc wm → lv_has ls 7 [(0, .ref b), (1, .ref (Gc.2.2 0)), (2, .ref (Gm.2.2 0)), (3, .ref o), (4, .int (nI i))] → cl ≤ cells + 26 → sl ≤ slots + 7884 → W p l e room_1 s m args below meth c H locs cl sl Q (F0 m 1056 ls [])) :
    W p l e room_1 s m args below meth c H locs cells slots Q (F0 m 249 ls []) := by
  obtain ⟨v, wc1, wm1, B1, N1, e1, e2, hKR1⟩ := look_p hKR 
  refine lv_aload_n X.1.1 X.1.2.1 dL_law_249 rfl (lv_at hl 1 rfl) ?_
  refine law_c (jc := jI) (v := v) (w1 := wc1) (M2 := mX11_look) (n := 0) (idx := 70) (b2 := (0, 0)) (argv := []) (rest := []) X P0 dL_law_250 (by rw [← e1]; exact kX11_look  _) mkX11_look tw614 rfl ⟨Nat.le_of_ble_eq_true rfl, Nat.le_of_ble_eq_true rfl, rfl, rfl⟩ rfl hl.1 rfl (Nat.le_of_ble_eq_true rfl) (by show _ + 0 ≤ 600128; omega) (by show _ + 0 ≤ 7301098; omega) (fun H0 locs0 ex0 P0 => ?_)
  show W p l e room_1 s m args below meth c _ _ _ _ Q (F0 m 253 _ [.int v])
  refine lv_aload_n X.1.1 X.1.2.1 dL_law_253 rfl (lv_at hl 2 rfl) ?_
  refine law_m (jc := jI) (v := v) (w1 := wm1) (M2 := mX12_look) (n := 0) (idx := 73) (b2 := (0, 0)) (argv := []) (rest := [.int v]) X P0 dL_law_254 (by rw [← e2]; exact kX12_look  _) mkX12_look tw2051 rfl ⟨Nat.le_of_ble_eq_true rfl, Nat.le_of_ble_eq_true rfl, rfl, rfl⟩ rfl hl.1 rfl (Nat.le_of_ble_eq_true rfl) (by show _ + 0 ≤ 600128; omega) (by show _ + 0 ≤ 7301098; omega) (fun H1 locs1 P1 => ?_)
  show W p l e room_1 s m args below meth c _ _ _ _ Q (F0 m 257 _ [.int v, .int v])
  refine lv_icmp_eq (tgt := 1056) X.1.1 X.1.2.1 dL_law_257 (by decide) (fun _ => ?_) (fun q9 => absurd rfl q9)
  exact hk B1 N1 wc1 wm1 ex0 f _ _ _ _ _ P1 hKR1 hl (by show _ ≤ cells + 26; omega) (by show _ ≤ slots + 7884; omega)
set_option maxHeartbeats 2000000 in
theorem law_3 (X : LX p l s m args c cL_law Gc Gm A) (hXs : va_X b L xs s s.heap) (hbl : b < s.heap.size) (hbA : ¬ A b) (hiL : i + 3 < L) (hL : L ≤ 256) (P0 : lwP Gc Gm o f wc wm ex A s.heap H locs) (hKR : KR B N wc wm) (hl : lv_has ls 7 [(0, .ref b), (1, .ref (Gc.2.2 0)), (2, .ref (Gm.2.2 0)), (3, .ref o), (4, .int (nI i))]) (hcl : cells + 26 ≤ 600128) (hsl : slots + 7884 ≤ 7301098)
    (hk : ∀ (B N : _) (wc wm : xW) (ex : va_W) (f : Nat → Int64) (H : Heap) (locs : List Loc) (ls : Array Slot) (cl sl : Nat), lwP Gc Gm o f wc wm ex A s.heap H locs → KR B N wc wm → lv_has ls 7 [(0, .ref b), (1, .ref (Gc.2.2 0)), (2, .ref (Gm.2.2 0)), (3, .ref o), (4, .int (nI i))] → cl ≤ cells + 26 → sl ≤ slots + 7884 → W p l e room_1 s m args below meth c H locs cl sl Q (F0 m 1056 ls [])) :
    W p l e room_1 s m args below meth c H locs cells slots Q (F0 m 262 ls []) := by
  obtain ⟨v, wc1, wm1, B1, N1, e1, e2, hKR1⟩ := fault_p hKR 
  refine lv_aload_n X.1.1 X.1.2.1 dL_law_262 rfl (lv_at hl 1 rfl) ?_
  refine law_c (jc := jI) (v := v) (w1 := wc1) (M2 := mX11_fault) (n := 0) (idx := 74) (b2 := (0, 0)) (argv := []) (rest := []) X P0 dL_law_263 (by rw [← e1]; exact kX11_fault  _) mkX11_fault tw937 rfl ⟨Nat.le_of_ble_eq_true rfl, Nat.le_of_ble_eq_true rfl, rfl, rfl⟩ rfl hl.1 rfl (Nat.le_of_ble_eq_true rfl) (by show _ + 0 ≤ 600128; omega) (by show _ + 0 ≤ 7301098; omega) (fun H0 locs0 ex0 P0 => ?_)
  show W p l e room_1 s m args below meth c _ _ _ _ Q (F0 m 266 _ [.int v])
  refine lv_aload_n X.1.1 X.1.2.1 dL_law_266 rfl (lv_at hl 2 rfl) ?_
  refine law_m (jc := jI) (v := v) (w1 := wm1) (M2 := mX12_fault) (n := 0) (idx := 77) (b2 := (0, 0)) (argv := []) (rest := [.int v]) X P0 dL_law_267 (by rw [← e2]; exact kX12_fault  _) mkX12_fault tw2168 rfl ⟨Nat.le_of_ble_eq_true rfl, Nat.le_of_ble_eq_true rfl, rfl, rfl⟩ rfl hl.1 rfl (Nat.le_of_ble_eq_true rfl) (by show _ + 0 ≤ 600128; omega) (by show _ + 0 ≤ 7301098; omega) (fun H1 locs1 P1 => ?_)
  show W p l e room_1 s m args below meth c _ _ _ _ Q (F0 m 270 _ [.int v, .int v])
  refine lv_icmp_eq (tgt := 1056) X.1.1 X.1.2.1 dL_law_270 (by decide) (fun _ => ?_) (fun q9 => absurd rfl q9)
  exact hk B1 N1 wc1 wm1 ex0 f _ _ _ _ _ P1 hKR1 hl (by show _ ≤ cells + 26; omega) (by show _ ≤ slots + 7884; omega)
set_option maxHeartbeats 2000000 in
theorem law_4 (X : LX p l s m args c cL_law Gc Gm A) (hXs : va_X b L xs s s.heap) (hbl : b < s.heap.size) (hbA : ¬ A b) (hiL : i + 3 < L) (hL : L ≤ 256) (P0 : lwP Gc Gm o f wc wm ex A s.heap H locs) (hKR : KR B N wc wm) (hl : lv_has ls 7 [(0, .ref b), (1, .ref (Gc.2.2 0)), (2, .ref (Gm.2.2 0)), (3, .ref o), (4, .int (nI i))]) (hcl : cells + 26 ≤ 600128) (hsl : slots + 7884 ≤ 7301098)
    (hk : ∀ (B N : _) (wc wm : xW) (ex : va_W) (f : Nat → Int64) (H : Heap) (locs : List Loc) (ls : Array Slot) (cl sl : Nat), lwP Gc Gm o f wc wm ex A s.heap H locs → KR B N wc wm → lv_has ls 7 [(0, .ref b), (1, .ref (Gc.2.2 0)), (2, .ref (Gm.2.2 0)), (3, .ref o), (4, .int (nI i))] → cl ≤ cells + 26 → sl ≤ slots + 7884 → W p l e room_1 s m args below meth c H locs cl sl Q (F0 m 1056 ls [])) :
    W p l e room_1 s m args below meth c H locs cells slots Q (F0 m 275 ls []) := by
  obtain ⟨v, wc1, wm1, B1, N1, e1, e2, hKR1⟩ := place_p hKR 
  refine lv_aload_n X.1.1 X.1.2.1 dL_law_275 rfl (lv_at hl 1 rfl) ?_
  refine law_c (jc := jI) (v := v) (w1 := wc1) (M2 := mX11_place) (n := 0) (idx := 78) (b2 := (0, 0)) (argv := []) (rest := []) X P0 dL_law_276 (by rw [← e1]; exact kX11_place  _) mkX11_place tw941 rfl ⟨Nat.le_of_ble_eq_true rfl, Nat.le_of_ble_eq_true rfl, rfl, rfl⟩ rfl hl.1 rfl (Nat.le_of_ble_eq_true rfl) (by show _ + 0 ≤ 600128; omega) (by show _ + 0 ≤ 7301098; omega) (fun H0 locs0 ex0 P0 => ?_)
  show W p l e room_1 s m args below meth c _ _ _ _ Q (F0 m 279 _ [.int v])
  refine lv_aload_n X.1.1 X.1.2.1 dL_law_279 rfl (lv_at hl 2 rfl) ?_
  refine law_m (jc := jI) (v := v) (w1 := wm1) (M2 := mX12_place_) (n := 0) (idx := 81) (b2 := (0, 0)) (argv := []) (rest := [.int v]) X P0 dL_law_280 (by rw [← e2]; exact kX12_place_  _) mkX12_place_ tw2172 rfl ⟨Nat.le_of_ble_eq_true rfl, Nat.le_of_ble_eq_true rfl, rfl, rfl⟩ rfl hl.1 rfl (Nat.le_of_ble_eq_true rfl) (by show _ + 0 ≤ 600128; omega) (by show _ + 0 ≤ 7301098; omega) (fun H1 locs1 P1 => ?_)
  show W p l e room_1 s m args below meth c _ _ _ _ Q (F0 m 283 _ [.int v, .int v])
  refine lv_icmp_eq (tgt := 1056) X.1.1 X.1.2.1 dL_law_283 (by decide) (fun _ => ?_) (fun q9 => absurd rfl q9)
  exact hk B1 N1 wc1 wm1 ex0 f _ _ _ _ _ P1 hKR1 hl (by show _ ≤ cells + 26; omega) (by show _ ≤ slots + 7884; omega)
set_option maxHeartbeats 2000000 in
theorem law_5 (X : LX p l s m args c cL_law Gc Gm A) (hXs : va_X b L xs s s.heap) (hbl : b < s.heap.size) (hbA : ¬ A b) (hiL : i + 3 < L) (hL : L ≤ 256) (P0 : lwP Gc Gm o f wc wm ex A s.heap H locs) (hKR : KR B N wc wm) (hl : lv_has ls 7 [(0, .ref b), (1, .ref (Gc.2.2 0)), (2, .ref (Gm.2.2 0)), (3, .ref o), (4, .int (nI i))]) (hcl : cells + 26 ≤ 600128) (hsl : slots + 7884 ≤ 7301098)
    (hk : ∀ (B N : _) (wc wm : xW) (ex : va_W) (f : Nat → Int64) (H : Heap) (locs : List Loc) (ls : Array Slot) (cl sl : Nat), lwP Gc Gm o f wc wm ex A s.heap H locs → KR B N wc wm → lv_has ls 7 [(0, .ref b), (1, .ref (Gc.2.2 0)), (2, .ref (Gm.2.2 0)), (3, .ref o), (4, .int (nI i))] → cl ≤ cells + 26 → sl ≤ slots + 7884 → W p l e room_1 s m args below meth c H locs cl sl Q (F0 m 1056 ls [])) :
    W p l e room_1 s m args below meth c H locs cells slots Q (F0 m 288 ls []) := by
  obtain ⟨v, wc1, wm1, B1, N1, e1, e2, hKR1⟩ := unit_p hKR (xs (i + 1))
  refine lv_aload_n X.1.1 X.1.2.1 dL_law_288 rfl (lv_at hl 1 rfl) ?_
  refine law_arg (k := 1) (n0 := 0) (n4 := 4) X hXs hbl hbA P0.2.2.2.2.1 hl rfl rfl (by omega) hL (by decide) (by decide) dL_law_289 dL_law_290 dL_law_292 dL_law_293 dL_law_294 ?_
  refine law_c (jc := jI) (v := v) (w1 := wc1) (M2 := mX11_unit) (n := 1) (idx := 82) (b2 := (0, 0)) (argv := [.int (xs (i + 1))]) (rest := []) X P0 dL_law_295 (by rw [← e1]; exact kX11_unit (xs (i + 1)) _) mkX11_unit tw945 rfl ⟨Nat.le_of_ble_eq_true rfl, Nat.le_of_ble_eq_true rfl, rfl, rfl⟩ rfl hl.1 rfl (Nat.le_of_ble_eq_true rfl) (by show _ + 0 ≤ 600128; omega) (by show _ + 0 ≤ 7301098; omega) (fun H0 locs0 ex0 P0 => ?_)
  show W p l e room_1 s m args below meth c _ _ _ _ Q (F0 m 298 _ [.int v])
  refine lv_aload_n X.1.1 X.1.2.1 dL_law_298 rfl (lv_at hl 2 rfl) ?_
  refine law_arg (k := 1) (n0 := 0) (n4 := 4) X hXs hbl hbA P0.2.2.2.2.1 hl rfl rfl (by omega) hL (by decide) (by decide) dL_law_299 dL_law_300 dL_law_302 dL_law_303 dL_law_304 ?_
  refine law_m (jc := jI) (v := v) (w1 := wm1) (M2 := mX12_unit) (n := 1) (idx := 85) (b2 := (0, 0)) (argv := [.int (xs (i + 1))]) (rest := [.int v]) X P0 dL_law_305 (by rw [← e2]; exact kX12_unit (xs (i + 1)) _) mkX12_unit tw2176 rfl ⟨Nat.le_of_ble_eq_true rfl, Nat.le_of_ble_eq_true rfl, rfl, rfl⟩ rfl hl.1 rfl (Nat.le_of_ble_eq_true rfl) (by show _ + 0 ≤ 600128; omega) (by show _ + 0 ≤ 7301098; omega) (fun H1 locs1 P1 => ?_)
  show W p l e room_1 s m args below meth c _ _ _ _ Q (F0 m 308 _ [.int v, .int v])
  refine lv_icmp_eq (tgt := 1056) X.1.1 X.1.2.1 dL_law_308 (by decide) (fun _ => ?_) (fun q9 => absurd rfl q9)
  exact hk B1 N1 wc1 wm1 ex0 f _ _ _ _ _ P1 hKR1 hl (by show _ ≤ cells + 26; omega) (by show _ ≤ slots + 7884; omega)
set_option maxHeartbeats 2000000 in
theorem law_6 (X : LX p l s m args c cL_law Gc Gm A) (hXs : va_X b L xs s s.heap) (hbl : b < s.heap.size) (hbA : ¬ A b) (hiL : i + 3 < L) (hL : L ≤ 256) (P0 : lwP Gc Gm o f wc wm ex A s.heap H locs) (hKR : KR B N wc wm) (hl : lv_has ls 7 [(0, .ref b), (1, .ref (Gc.2.2 0)), (2, .ref (Gm.2.2 0)), (3, .ref o), (4, .int (nI i))]) (hcl : cells + 26 ≤ 600128) (hsl : slots + 7884 ≤ 7301098)
    (hk : ∀ (B N : _) (wc wm : xW) (ex : va_W) (f : Nat → Int64) (H : Heap) (locs : List Loc) (ls : Array Slot) (cl sl : Nat), lwP Gc Gm o f wc wm ex A s.heap H locs → KR B N wc wm → lv_has ls 7 [(0, .ref b), (1, .ref (Gc.2.2 0)), (2, .ref (Gm.2.2 0)), (3, .ref o), (4, .int (nI i))] → cl ≤ cells + 26 → sl ≤ slots + 7884 → W p l e room_1 s m args below meth c H locs cl sl Q (F0 m 1056 ls [])) :
    W p l e room_1 s m args below meth c H locs cells slots Q (F0 m 313 ls []) := by
  obtain ⟨v, wc1, wm1, B1, N1, e1, e2, hKR1⟩ := size_p hKR (xs (i + 1))
  refine lv_aload_n X.1.1 X.1.2.1 dL_law_313 rfl (lv_at hl 1 rfl) ?_
  refine law_arg (k := 1) (n0 := 0) (n4 := 4) X hXs hbl hbA P0.2.2.2.2.1 hl rfl rfl (by omega) hL (by decide) (by decide) dL_law_314 dL_law_315 dL_law_317 dL_law_318 dL_law_319 ?_
  refine law_c (jc := jI) (v := v) (w1 := wc1) (M2 := mX11_size) (n := 1) (idx := 86) (b2 := (0, 0)) (argv := [.int (xs (i + 1))]) (rest := []) X P0 dL_law_320 (by rw [← e1]; exact kX11_size (xs (i + 1)) _) mkX11_size tw951 rfl ⟨Nat.le_of_ble_eq_true rfl, Nat.le_of_ble_eq_true rfl, rfl, rfl⟩ rfl hl.1 rfl (Nat.le_of_ble_eq_true rfl) (by show _ + 0 ≤ 600128; omega) (by show _ + 0 ≤ 7301098; omega) (fun H0 locs0 ex0 P0 => ?_)
  show W p l e room_1 s m args below meth c _ _ _ _ Q (F0 m 323 _ [.int v])
  refine lv_aload_n X.1.1 X.1.2.1 dL_law_323 rfl (lv_at hl 2 rfl) ?_
  refine law_arg (k := 1) (n0 := 0) (n4 := 4) X hXs hbl hbA P0.2.2.2.2.1 hl rfl rfl (by omega) hL (by decide) (by decide) dL_law_324 dL_law_325 dL_law_327 dL_law_328 dL_law_329 ?_
  refine law_m (jc := jI) (v := v) (w1 := wm1) (M2 := mX12_size) (n := 1) (idx := 89) (b2 := (0, 0)) (argv := [.int (xs (i + 1))]) (rest := [.int v]) X P0 dL_law_330 (by rw [← e2]; exact kX12_size (xs (i + 1)) _) mkX12_size tw2180 rfl ⟨Nat.le_of_ble_eq_true rfl, Nat.le_of_ble_eq_true rfl, rfl, rfl⟩ rfl hl.1 rfl (Nat.le_of_ble_eq_true rfl) (by show _ + 0 ≤ 600128; omega) (by show _ + 0 ≤ 7301098; omega) (fun H1 locs1 P1 => ?_)
  show W p l e room_1 s m args below meth c _ _ _ _ Q (F0 m 333 _ [.int v, .int v])
  refine lv_icmp_eq (tgt := 1056) X.1.1 X.1.2.1 dL_law_333 (by decide) (fun _ => ?_) (fun q9 => absurd rfl q9)
  exact hk B1 N1 wc1 wm1 ex0 f _ _ _ _ _ P1 hKR1 hl (by show _ ≤ cells + 26; omega) (by show _ ≤ slots + 7884; omega)
set_option maxHeartbeats 2000000 in
theorem law_7 (X : LX p l s m args c cL_law Gc Gm A) (hXs : va_X b L xs s s.heap) (hbl : b < s.heap.size) (hbA : ¬ A b) (hiL : i + 3 < L) (hL : L ≤ 256) (P0 : lwP Gc Gm o f wc wm ex A s.heap H locs) (hKR : KR B N wc wm) (hl : lv_has ls 7 [(0, .ref b), (1, .ref (Gc.2.2 0)), (2, .ref (Gm.2.2 0)), (3, .ref o), (4, .int (nI i))]) (hcl : cells + 26 ≤ 600128) (hsl : slots + 7884 ≤ 7301098)
    (hk : ∀ (B N : _) (wc wm : xW) (ex : va_W) (f : Nat → Int64) (H : Heap) (locs : List Loc) (ls : Array Slot) (cl sl : Nat), lwP Gc Gm o f wc wm ex A s.heap H locs → KR B N wc wm → lv_has ls 7 [(0, .ref b), (1, .ref (Gc.2.2 0)), (2, .ref (Gm.2.2 0)), (3, .ref o), (4, .int (nI i))] → cl ≤ cells + 26 → sl ≤ slots + 7884 → W p l e room_1 s m args below meth c H locs cl sl Q (F0 m 1056 ls [])) :
    W p l e room_1 s m args below meth c H locs cells slots Q (F0 m 338 ls []) := by
  obtain ⟨v, wc1, wm1, B1, N1, e1, e2, hKR1⟩ := tell_p hKR (xs (i + 1))
  refine lv_aload_n X.1.1 X.1.2.1 dL_law_338 rfl (lv_at hl 1 rfl) ?_
  refine law_arg (k := 1) (n0 := 0) (n4 := 4) X hXs hbl hbA P0.2.2.2.2.1 hl rfl rfl (by omega) hL (by decide) (by decide) dL_law_339 dL_law_340 dL_law_342 dL_law_343 dL_law_344 ?_
  refine law_c (jc := jI) (v := v) (w1 := wc1) (M2 := mX11_tell) (n := 1) (idx := 90) (b2 := (25, 7878)) (argv := [.int (xs (i + 1))]) (rest := []) X P0 dL_law_345 (by rw [← e1]; exact kX11_tell (xs (i + 1)) _) mkX11_tell tw956 rfl ⟨Nat.le_of_ble_eq_true rfl, Nat.le_of_ble_eq_true rfl, rfl, rfl⟩ rfl hl.1 rfl (Nat.le_of_ble_eq_true rfl) (by show _ + 25 ≤ 600128; omega) (by show _ + 7878 ≤ 7301098; omega) (fun H0 locs0 ex0 P0 => ?_)
  show W p l e room_1 s m args below meth c _ _ _ _ Q (F0 m 348 _ [.int v])
  refine lv_aload_n X.1.1 X.1.2.1 dL_law_348 rfl (lv_at hl 2 rfl) ?_
  refine law_arg (k := 1) (n0 := 0) (n4 := 4) X hXs hbl hbA P0.2.2.2.2.1 hl rfl rfl (by omega) hL (by decide) (by decide) dL_law_349 dL_law_350 dL_law_352 dL_law_353 dL_law_354 ?_
  refine law_m (jc := jI) (v := v) (w1 := wm1) (M2 := mX12_tell) (n := 1) (idx := 93) (b2 := (0, 0)) (argv := [.int (xs (i + 1))]) (rest := [.int v]) X P0 dL_law_355 (by rw [← e2]; exact kX12_tell (xs (i + 1)) _) mkX12_tell tw2184 rfl ⟨Nat.le_of_ble_eq_true rfl, Nat.le_of_ble_eq_true rfl, rfl, rfl⟩ rfl hl.1 rfl (Nat.le_of_ble_eq_true rfl) (by show _ + 0 ≤ 600128; omega) (by show _ + 0 ≤ 7301098; omega) (fun H1 locs1 P1 => ?_)
  show W p l e room_1 s m args below meth c _ _ _ _ Q (F0 m 358 _ [.int v, .int v])
  refine lv_icmp_eq (tgt := 1056) X.1.1 X.1.2.1 dL_law_358 (by decide) (fun _ => ?_) (fun q9 => absurd rfl q9)
  exact hk B1 N1 wc1 wm1 ex0 f _ _ _ _ _ P1 hKR1 hl (by show _ ≤ cells + 26; omega) (by show _ ≤ slots + 7884; omega)
set_option maxHeartbeats 2000000 in
theorem law_8 (X : LX p l s m args c cL_law Gc Gm A) (hXs : va_X b L xs s s.heap) (hbl : b < s.heap.size) (hbA : ¬ A b) (hiL : i + 3 < L) (hL : L ≤ 256) (P0 : lwP Gc Gm o f wc wm ex A s.heap H locs) (hKR : KR B N wc wm) (hl : lv_has ls 7 [(0, .ref b), (1, .ref (Gc.2.2 0)), (2, .ref (Gm.2.2 0)), (3, .ref o), (4, .int (nI i))]) (hcl : cells + 26 ≤ 600128) (hsl : slots + 7884 ≤ 7301098)
    (hk : ∀ (B N : _) (wc wm : xW) (ex : va_W) (f : Nat → Int64) (H : Heap) (locs : List Loc) (ls : Array Slot) (cl sl : Nat), lwP Gc Gm o f wc wm ex A s.heap H locs → KR B N wc wm → lv_has ls 7 [(0, .ref b), (1, .ref (Gc.2.2 0)), (2, .ref (Gm.2.2 0)), (3, .ref o), (4, .int (nI i))] → cl ≤ cells + 26 → sl ≤ slots + 7884 → W p l e room_1 s m args below meth c H locs cl sl Q (F0 m 1056 ls [])) :
    W p l e room_1 s m args below meth c H locs cells slots Q (F0 m 363 ls []) := by
  obtain ⟨v, wc1, wm1, B1, N1, e1, e2, hKR1⟩ := text_p hKR (xs (i + 1))
  refine lv_aload_n X.1.1 X.1.2.1 dL_law_363 rfl (lv_at hl 1 rfl) ?_
  refine law_arg (k := 1) (n0 := 0) (n4 := 4) X hXs hbl hbA P0.2.2.2.2.1 hl rfl rfl (by omega) hL (by decide) (by decide) dL_law_364 dL_law_365 dL_law_367 dL_law_368 dL_law_369 ?_
  refine law_c (jc := jL) (v := v) (w1 := wc1) (M2 := mX11_text) (n := 1) (idx := 94) (b2 := (0, 0)) (argv := [.int (xs (i + 1))]) (rest := []) X P0 dL_law_370 (by rw [← e1]; exact kX11_text (xs (i + 1)) _) mkX11_text tw1411 rfl ⟨Nat.le_of_ble_eq_true rfl, Nat.le_of_ble_eq_true rfl, rfl, rfl⟩ rfl hl.1 rfl (Nat.le_of_ble_eq_true rfl) (by show _ + 0 ≤ 600128; omega) (by show _ + 0 ≤ 7301098; omega) (fun H0 locs0 ex0 P0 => ?_)
  show W p l e room_1 s m args below meth c _ _ _ _ Q (F0 m 373 _ [.long v])
  refine lv_aload_n X.1.1 X.1.2.1 dL_law_373 rfl (lv_at hl 2 rfl) ?_
  refine law_arg (k := 1) (n0 := 0) (n4 := 4) X hXs hbl hbA P0.2.2.2.2.1 hl rfl rfl (by omega) hL (by decide) (by decide) dL_law_374 dL_law_375 dL_law_377 dL_law_378 dL_law_379 ?_
  refine law_m (jc := jL) (v := v) (w1 := wm1) (M2 := mX12_text) (n := 1) (idx := 98) (b2 := (0, 0)) (argv := [.int (xs (i + 1))]) (rest := [.long v]) X P0 dL_law_380 (by rw [← e2]; exact kX12_text (xs (i + 1)) _) mkX12_text tw2220 rfl ⟨Nat.le_of_ble_eq_true rfl, Nat.le_of_ble_eq_true rfl, rfl, rfl⟩ rfl hl.1 rfl (Nat.le_of_ble_eq_true rfl) (by show _ + 0 ≤ 600128; omega) (by show _ + 0 ≤ 7301098; omega) (fun H1 locs1 P1 => ?_)
  show W p l e room_1 s m args below meth c _ _ _ _ Q (F0 m 383 _ [.long v, .long v])
  refine law_lcmp X.1.1 X.1.2.1 dL_law_383 ?_
  refine lv_if_eq (tgt := 1056) X.1.1 X.1.2.1 dL_law_384 (by decide) (fun _ => ?_) (fun q9 => absurd ((lgc v v).1.mpr rfl) q9)
  exact hk B1 N1 wc1 wm1 ex0 f _ _ _ _ _ P1 hKR1 hl (by show _ ≤ cells + 26; omega) (by show _ ≤ slots + 7884; omega)
set_option maxHeartbeats 2000000 in
theorem law_9 (X : LX p l s m args c cL_law Gc Gm A) (hXs : va_X b L xs s s.heap) (hbl : b < s.heap.size) (hbA : ¬ A b) (hiL : i + 3 < L) (hL : L ≤ 256) (P0 : lwP Gc Gm o f wc wm ex A s.heap H locs) (hKR : KR B N wc wm) (hl : lv_has ls 7 [(0, .ref b), (1, .ref (Gc.2.2 0)), (2, .ref (Gm.2.2 0)), (3, .ref o), (4, .int (nI i))]) (hcl : cells + 26 ≤ 600128) (hsl : slots + 7884 ≤ 7301098)
    (hk : ∀ (B N : _) (wc wm : xW) (ex : va_W) (f : Nat → Int64) (H : Heap) (locs : List Loc) (ls : Array Slot) (cl sl : Nat), lwP Gc Gm o f wc wm ex A s.heap H locs → KR B N wc wm → lv_has ls 7 [(0, .ref b), (1, .ref (Gc.2.2 0)), (2, .ref (Gm.2.2 0)), (3, .ref o), (4, .int (nI i))] → cl ≤ cells + 26 → sl ≤ slots + 7884 → W p l e room_1 s m args below meth c H locs cl sl Q (F0 m 1056 ls [])) :
    W p l e room_1 s m args below meth c H locs cells slots Q (F0 m 389 ls []) := by
  rcases poke_p hKR (xs (i + 1)) (xs (i + 2)) with ⟨v, wc1, wm1, B1, N1, e1, e2, hKR1, ht0⟩ | ⟨pcx, cx, v, wm1, B1, N1, hmem, e1, e2, hKR1, ht0⟩
  · refine lv_aload_n X.1.1 X.1.2.1 dL_law_389 rfl (lv_at hl 1 rfl) ?_
    refine law_arg (k := 1) (n0 := 0) (n4 := 4) X hXs hbl hbA P0.2.2.2.2.1 hl rfl rfl (by omega) hL (by decide) (by decide) dL_law_390 dL_law_391 dL_law_393 dL_law_394 dL_law_395 ?_
    refine law_arg (k := 2) (n0 := 0) (n4 := 4) X hXs hbl hbA P0.2.2.2.2.1 hl rfl rfl (by omega) hL (by decide) (by decide) dL_law_396 dL_law_397 dL_law_399 dL_law_400 dL_law_401 ?_
    refine lv_aload_n X.1.1 X.1.2.1 dL_law_402 rfl (lv_at hl 3 rfl) ?_
    refine law_h (n := 4) (idx := 99) (rest := []) X P0 dL_law_403 (hL_poke_r e1) tw1468 tw152 tw1467 tw1466 ⟨⟨by decide, by decide⟩, by decide +kernel⟩ ⟨Nat.le_of_ble_eq_true rfl, Nat.le_of_ble_eq_true rfl⟩ rfl hl.1 rfl (Nat.le_of_ble_eq_true rfl) (by show _ + 1 ≤ 600128; omega) (by show _ + 6 ≤ 7301098; omega) (fun H0 locs0 ex0 f0 hf0 P0 => ?_)
    show W p l e room_1 s m args below meth c _ _ _ _ Q (F0 m 406 _ [.int 0])
    refine lv_istore (nL := 7) (lv' := [(5, .int 0), (0, .ref b), (1, .ref (Gc.2.2 0)), (2, .ref (Gm.2.2 0)), (3, .ref o), (4, .int (nI i))]) X.1.1 X.1.2.1 dL_law_406 hl (by decide) rfl (fun ls5 hl5 => ?_)
    refine lv_aload_n X.1.1 X.1.2.1 dL_law_408 rfl (lv_at hl5 3 rfl) ?_
    refine law_arg (k := 1) (n0 := 1) (n4 := 5) X hXs hbl hbA P0.2.2.2.2.1 hl5 rfl rfl (by omega) hL (by decide) (by decide) dL_law_409 dL_law_410 dL_law_412 dL_law_413 dL_law_414 ?_
    refine law_arg (k := 2) (n0 := 1) (n4 := 5) X hXs hbl hbA P0.2.2.2.2.1 hl5 rfl rfl (by omega) hL (by decide) (by decide) dL_law_415 dL_law_416 dL_law_418 dL_law_419 dL_law_420 ?_
    refine law_m (jc := jI) (v := v) (w1 := wm1) (M2 := mX12_poke) (n := 2) (idx := 102) (b2 := (0, 0)) (argv := [.int (xs (i + 1)), .int (xs (i + 2))]) (rest := []) X P0 dL_law_421 (by rw [← e2]; exact kX12_poke (xs (i + 1)) (xs (i + 2)) _) mkX12_poke tw2239 rfl ⟨Nat.le_of_ble_eq_true rfl, Nat.le_of_ble_eq_true rfl, rfl, rfl⟩ rfl hl5.1 rfl (Nat.le_of_ble_eq_true rfl) (by show _ + 0 ≤ 600128; omega) (by show _ + 0 ≤ 7301098; omega) (fun H1 locs1 P1 => ?_)
    show W p l e room_1 s m args below meth c _ _ _ _ Q (F0 m 424 _ [.int v])
    refine lv_istore (nL := 7) (lv' := [(6, .int v), (5, .int 0), (0, .ref b), (1, .ref (Gc.2.2 0)), (2, .ref (Gm.2.2 0)), (3, .ref o), (4, .int (nI i))]) X.1.1 X.1.2.1 dL_law_424 hl5 (by decide) rfl (fun ls6 hl6 => ?_)
    refine lv_aload_n X.1.1 X.1.2.1 dL_law_426 rfl (lv_at hl6 4 rfl) ?_
    refine law_m (jc := jI) (v := 0) (w1 := wm1) (M2 := mX12_thrown) (n := 0) (idx := 62) (b2 := (0, 0)) (argv := []) (rest := []) X P1 dL_law_427 (by have h9 := kX12_thrown wm1; unfold sX12_thrown at h9; rw [ht0] at h9; exact h9) mkX12_thrown tw2047 rfl ⟨Nat.le_of_ble_eq_true rfl, Nat.le_of_ble_eq_true rfl, rfl, rfl⟩ rfl hl6.1 rfl (Nat.le_of_ble_eq_true rfl) (by show _ + 0 ≤ 600128; omega) (by show _ + 0 ≤ 7301098; omega) (fun H2 locs2 P2 => ?_)
    show W p l e room_1 s m args below meth c _ _ _ _ Q (F0 m 430 _ [.int 0])
    refine lv_iload X.1.1 X.1.2.1 dL_law_430 (lv_at hl6 1 rfl) ?_
    refine lv_icmp_eq (tgt := 437) X.1.1 X.1.2.1 dL_law_432 (by decide) (fun _ => ?_) (fun q9 => absurd rfl q9)
    refine lv_iload X.1.1 X.1.2.1 dL_law_437 (lv_at hl6 1 rfl) ?_
    refine lv_if_ne (tgt := 454) X.1.1 X.1.2.1 dL_law_439 (by decide) (fun q9 => absurd rfl q9) (fun _ => ?_)
    refine lv_aload_n X.1.1 X.1.2.1 dL_law_442 rfl (lv_at hl6 5 rfl) ?_
    refine lv_iconst (v := 0) X.1.1 X.1.2.1 dL_law_443 (by decide) ?_
    refine law_out X P2 dL_law_444 ?_
    refine lv_iload X.1.1 X.1.2.1 dL_law_445 (lv_at hl6 0 rfl) ?_
    refine lv_i2l X.1.1 X.1.2.1 dL_law_447 rfl ?_
    refine law_lcmp X.1.1 X.1.2.1 dL_law_448 ?_
    refine lv_if_eq (tgt := 454) X.1.1 X.1.2.1 dL_law_449 (by decide) (fun _ => ?_) (fun q9 => absurd ((lgc _ _).1.mpr hf0) q9)
    refine lv_goto (tgt := 1056) X.1.1 X.1.2.1 dL_law_454 (by decide) ?_
    exact hk B1 N1 wc1 wm1 ex0 f0 _ _ _ _ _ P2 hKR1 (lv_sub hl6 [2, 3, 4, 5, 6] rfl) (by show _ ≤ cells + 26; omega) (by show _ ≤ slots + 7884; omega)
  · simp only [List.mem_cons, Prod.mk.injEq, List.not_mem_nil, or_false] at hmem
    rcases hmem with ⟨rfl, rfl⟩ | ⟨rfl, rfl⟩
    · refine lv_aload_n X.1.1 X.1.2.1 dL_law_389 rfl (lv_at hl 1 rfl) ?_
      refine law_arg (k := 1) (n0 := 0) (n4 := 4) X hXs hbl hbA P0.2.2.2.2.1 hl rfl rfl (by omega) hL (by decide) (by decide) dL_law_390 dL_law_391 dL_law_393 dL_law_394 dL_law_395 ?_
      refine law_arg (k := 2) (n0 := 0) (n4 := 4) X hXs hbl hbA P0.2.2.2.2.1 hl rfl rfl (by omega) hL (by decide) (by decide) dL_law_396 dL_law_397 dL_law_399 dL_law_400 dL_law_401 ?_
      refine lv_aload_n X.1.1 X.1.2.1 dL_law_402 rfl (lv_at hl 3 rfl) ?_
      refine law_h (n := 4) (idx := 99) (rest := []) X P0 dL_law_403 (hL_poke_t8 e1) tw1468 tw152 tw1467 tw1466 ⟨⟨by decide, by decide⟩, by decide +kernel⟩ ⟨Nat.le_of_ble_eq_true rfl, Nat.le_of_ble_eq_true rfl⟩ rfl hl.1 rfl (Nat.le_of_ble_eq_true rfl) (by show _ + 1 ≤ 600128; omega) (by show _ + 6 ≤ 7301098; omega) (fun H0 locs0 ex0 f0 hf0 P0 => ?_)
      show W p l e room_1 s m args below meth c _ _ _ _ Q (F0 m 406 _ [.int 1])
      refine lv_istore (nL := 7) (lv' := [(5, .int 1), (0, .ref b), (1, .ref (Gc.2.2 0)), (2, .ref (Gm.2.2 0)), (3, .ref o), (4, .int (nI i))]) X.1.1 X.1.2.1 dL_law_406 hl (by decide) rfl (fun ls5 hl5 => ?_)
      refine lv_aload_n X.1.1 X.1.2.1 dL_law_408 rfl (lv_at hl5 3 rfl) ?_
      refine law_arg (k := 1) (n0 := 1) (n4 := 5) X hXs hbl hbA P0.2.2.2.2.1 hl5 rfl rfl (by omega) hL (by decide) (by decide) dL_law_409 dL_law_410 dL_law_412 dL_law_413 dL_law_414 ?_
      refine law_arg (k := 2) (n0 := 1) (n4 := 5) X hXs hbl hbA P0.2.2.2.2.1 hl5 rfl rfl (by omega) hL (by decide) (by decide) dL_law_415 dL_law_416 dL_law_418 dL_law_419 dL_law_420 ?_
      refine law_m (jc := jI) (v := v) (w1 := wm1) (M2 := mX12_poke) (n := 2) (idx := 102) (b2 := (0, 0)) (argv := [.int (xs (i + 1)), .int (xs (i + 2))]) (rest := []) X P0 dL_law_421 (by rw [← e2]; exact kX12_poke (xs (i + 1)) (xs (i + 2)) _) mkX12_poke tw2239 rfl ⟨Nat.le_of_ble_eq_true rfl, Nat.le_of_ble_eq_true rfl, rfl, rfl⟩ rfl hl5.1 rfl (Nat.le_of_ble_eq_true rfl) (by show _ + 0 ≤ 600128; omega) (by show _ + 0 ≤ 7301098; omega) (fun H1 locs1 P1 => ?_)
      show W p l e room_1 s m args below meth c _ _ _ _ Q (F0 m 424 _ [.int v])
      refine lv_istore (nL := 7) (lv' := [(6, .int v), (5, .int 1), (0, .ref b), (1, .ref (Gc.2.2 0)), (2, .ref (Gm.2.2 0)), (3, .ref o), (4, .int (nI i))]) X.1.1 X.1.2.1 dL_law_424 hl5 (by decide) rfl (fun ls6 hl6 => ?_)
      refine lv_aload_n X.1.1 X.1.2.1 dL_law_426 rfl (lv_at hl6 4 rfl) ?_
      refine law_m (jc := jI) (v := 1) (w1 := wm1) (M2 := mX12_thrown) (n := 0) (idx := 62) (b2 := (0, 0)) (argv := []) (rest := []) X P1 dL_law_427 (by have h9 := kX12_thrown wm1; unfold sX12_thrown at h9; rw [ht0] at h9; exact h9) mkX12_thrown tw2047 rfl ⟨Nat.le_of_ble_eq_true rfl, Nat.le_of_ble_eq_true rfl, rfl, rfl⟩ rfl hl6.1 rfl (Nat.le_of_ble_eq_true rfl) (by show _ + 0 ≤ 600128; omega) (by show _ + 0 ≤ 7301098; omega) (fun H2 locs2 P2 => ?_)
      show W p l e room_1 s m args below meth c _ _ _ _ Q (F0 m 430 _ [.int 1])
      refine lv_iload X.1.1 X.1.2.1 dL_law_430 (lv_at hl6 1 rfl) ?_
      refine lv_icmp_eq (tgt := 437) X.1.1 X.1.2.1 dL_law_432 (by decide) (fun _ => ?_) (fun q9 => absurd rfl q9)
      refine lv_iload X.1.1 X.1.2.1 dL_law_437 (lv_at hl6 1 rfl) ?_
      refine lv_if_ne (tgt := 454) X.1.1 X.1.2.1 dL_law_439 (by decide) (fun _ => ?_) (fun q9 => absurd q9 (by decide))
      refine lv_goto (tgt := 1056) X.1.1 X.1.2.1 dL_law_454 (by decide) ?_
      exact hk B1 N1 wc wm1 ex0 f0 _ _ _ _ _ P2 hKR1 (lv_sub hl6 [2, 3, 4, 5, 6] rfl) (by show _ ≤ cells + 26; omega) (by show _ ≤ slots + 7884; omega)
    · refine lv_aload_n X.1.1 X.1.2.1 dL_law_389 rfl (lv_at hl 1 rfl) ?_
      refine law_arg (k := 1) (n0 := 0) (n4 := 4) X hXs hbl hbA P0.2.2.2.2.1 hl rfl rfl (by omega) hL (by decide) (by decide) dL_law_390 dL_law_391 dL_law_393 dL_law_394 dL_law_395 ?_
      refine law_arg (k := 2) (n0 := 0) (n4 := 4) X hXs hbl hbA P0.2.2.2.2.1 hl rfl rfl (by omega) hL (by decide) (by decide) dL_law_396 dL_law_397 dL_law_399 dL_law_400 dL_law_401 ?_
      refine lv_aload_n X.1.1 X.1.2.1 dL_law_402 rfl (lv_at hl 3 rfl) ?_
      refine law_h (n := 4) (idx := 99) (rest := []) X P0 dL_law_403 (hL_poke_t29 e1) tw1468 tw152 tw1467 tw1466 ⟨⟨by decide, by decide⟩, by decide +kernel⟩ ⟨Nat.le_of_ble_eq_true rfl, Nat.le_of_ble_eq_true rfl⟩ rfl hl.1 rfl (Nat.le_of_ble_eq_true rfl) (by show _ + 1 ≤ 600128; omega) (by show _ + 6 ≤ 7301098; omega) (fun H0 locs0 ex0 f0 hf0 P0 => ?_)
      show W p l e room_1 s m args below meth c _ _ _ _ Q (F0 m 406 _ [.int 1])
      refine lv_istore (nL := 7) (lv' := [(5, .int 1), (0, .ref b), (1, .ref (Gc.2.2 0)), (2, .ref (Gm.2.2 0)), (3, .ref o), (4, .int (nI i))]) X.1.1 X.1.2.1 dL_law_406 hl (by decide) rfl (fun ls5 hl5 => ?_)
      refine lv_aload_n X.1.1 X.1.2.1 dL_law_408 rfl (lv_at hl5 3 rfl) ?_
      refine law_arg (k := 1) (n0 := 1) (n4 := 5) X hXs hbl hbA P0.2.2.2.2.1 hl5 rfl rfl (by omega) hL (by decide) (by decide) dL_law_409 dL_law_410 dL_law_412 dL_law_413 dL_law_414 ?_
      refine law_arg (k := 2) (n0 := 1) (n4 := 5) X hXs hbl hbA P0.2.2.2.2.1 hl5 rfl rfl (by omega) hL (by decide) (by decide) dL_law_415 dL_law_416 dL_law_418 dL_law_419 dL_law_420 ?_
      refine law_m (jc := jI) (v := v) (w1 := wm1) (M2 := mX12_poke) (n := 2) (idx := 102) (b2 := (0, 0)) (argv := [.int (xs (i + 1)), .int (xs (i + 2))]) (rest := []) X P0 dL_law_421 (by rw [← e2]; exact kX12_poke (xs (i + 1)) (xs (i + 2)) _) mkX12_poke tw2239 rfl ⟨Nat.le_of_ble_eq_true rfl, Nat.le_of_ble_eq_true rfl, rfl, rfl⟩ rfl hl5.1 rfl (Nat.le_of_ble_eq_true rfl) (by show _ + 0 ≤ 600128; omega) (by show _ + 0 ≤ 7301098; omega) (fun H1 locs1 P1 => ?_)
      show W p l e room_1 s m args below meth c _ _ _ _ Q (F0 m 424 _ [.int v])
      refine lv_istore (nL := 7) (lv' := [(6, .int v), (5, .int 1), (0, .ref b), (1, .ref (Gc.2.2 0)), (2, .ref (Gm.2.2 0)), (3, .ref o), (4, .int (nI i))]) X.1.1 X.1.2.1 dL_law_424 hl5 (by decide) rfl (fun ls6 hl6 => ?_)
      refine lv_aload_n X.1.1 X.1.2.1 dL_law_426 rfl (lv_at hl6 4 rfl) ?_
      refine law_m (jc := jI) (v := 1) (w1 := wm1) (M2 := mX12_thrown) (n := 0) (idx := 62) (b2 := (0, 0)) (argv := []) (rest := []) X P1 dL_law_427 (by have h9 := kX12_thrown wm1; unfold sX12_thrown at h9; rw [ht0] at h9; exact h9) mkX12_thrown tw2047 rfl ⟨Nat.le_of_ble_eq_true rfl, Nat.le_of_ble_eq_true rfl, rfl, rfl⟩ rfl hl6.1 rfl (Nat.le_of_ble_eq_true rfl) (by show _ + 0 ≤ 600128; omega) (by show _ + 0 ≤ 7301098; omega) (fun H2 locs2 P2 => ?_)
      show W p l e room_1 s m args below meth c _ _ _ _ Q (F0 m 430 _ [.int 1])
      refine lv_iload X.1.1 X.1.2.1 dL_law_430 (lv_at hl6 1 rfl) ?_
      refine lv_icmp_eq (tgt := 437) X.1.1 X.1.2.1 dL_law_432 (by decide) (fun _ => ?_) (fun q9 => absurd rfl q9)
      refine lv_iload X.1.1 X.1.2.1 dL_law_437 (lv_at hl6 1 rfl) ?_
      refine lv_if_ne (tgt := 454) X.1.1 X.1.2.1 dL_law_439 (by decide) (fun _ => ?_) (fun q9 => absurd q9 (by decide))
      refine lv_goto (tgt := 1056) X.1.1 X.1.2.1 dL_law_454 (by decide) ?_
      exact hk B1 N1 wc wm1 ex0 f0 _ _ _ _ _ P2 hKR1 (lv_sub hl6 [2, 3, 4, 5, 6] rfl) (by show _ ≤ cells + 26; omega) (by show _ ≤ slots + 7884; omega)
set_option maxHeartbeats 2000000 in
theorem law_10 (X : LX p l s m args c cL_law Gc Gm A) (hXs : va_X b L xs s s.heap) (hbl : b < s.heap.size) (hbA : ¬ A b) (hiL : i + 3 < L) (hL : L ≤ 256) (P0 : lwP Gc Gm o f wc wm ex A s.heap H locs) (hKR : KR B N wc wm) (hl : lv_has ls 7 [(0, .ref b), (1, .ref (Gc.2.2 0)), (2, .ref (Gm.2.2 0)), (3, .ref o), (4, .int (nI i))]) (hcl : cells + 26 ≤ 600128) (hsl : slots + 7884 ≤ 7301098)
    (hk : ∀ (B N : _) (wc wm : xW) (ex : va_W) (f : Nat → Int64) (H : Heap) (locs : List Loc) (ls : Array Slot) (cl sl : Nat), lwP Gc Gm o f wc wm ex A s.heap H locs → KR B N wc wm → lv_has ls 7 [(0, .ref b), (1, .ref (Gc.2.2 0)), (2, .ref (Gm.2.2 0)), (3, .ref o), (4, .int (nI i))] → cl ≤ cells + 26 → sl ≤ slots + 7884 → W p l e room_1 s m args below meth c H locs cl sl Q (F0 m 1056 ls [])) :
    W p l e room_1 s m args below meth c H locs cells slots Q (F0 m 457 ls []) := by
  obtain ⟨v, wc1, wm1, B1, N1, e1, e2, hKR1⟩ := peek_p hKR (xs (i + 1))
  refine lv_aload_n X.1.1 X.1.2.1 dL_law_457 rfl (lv_at hl 1 rfl) ?_
  refine law_arg (k := 1) (n0 := 0) (n4 := 4) X hXs hbl hbA P0.2.2.2.2.1 hl rfl rfl (by omega) hL (by decide) (by decide) dL_law_458 dL_law_459 dL_law_461 dL_law_462 dL_law_463 ?_
  refine law_c (jc := jI) (v := v) (w1 := wc1) (M2 := mX11_peek) (n := 1) (idx := 103) (b2 := (0, 0)) (argv := [.int (xs (i + 1))]) (rest := []) X P0 dL_law_464 (by rw [← e1]; exact kX11_peek (xs (i + 1)) _) mkX11_peek tw1429 rfl ⟨Nat.le_of_ble_eq_true rfl, Nat.le_of_ble_eq_true rfl, rfl, rfl⟩ rfl hl.1 rfl (Nat.le_of_ble_eq_true rfl) (by show _ + 0 ≤ 600128; omega) (by show _ + 0 ≤ 7301098; omega) (fun H0 locs0 ex0 P0 => ?_)
  show W p l e room_1 s m args below meth c _ _ _ _ Q (F0 m 467 _ [.int v])
  refine lv_aload_n X.1.1 X.1.2.1 dL_law_467 rfl (lv_at hl 2 rfl) ?_
  refine law_arg (k := 1) (n0 := 0) (n4 := 4) X hXs hbl hbA P0.2.2.2.2.1 hl rfl rfl (by omega) hL (by decide) (by decide) dL_law_468 dL_law_469 dL_law_471 dL_law_472 dL_law_473 ?_
  refine law_m (jc := jI) (v := v) (w1 := wm1) (M2 := mX12_peek) (n := 1) (idx := 106) (b2 := (0, 0)) (argv := [.int (xs (i + 1))]) (rest := [.int v]) X P0 dL_law_474 (by rw [← e2]; exact kX12_peek (xs (i + 1)) _) mkX12_peek tw2244 rfl ⟨Nat.le_of_ble_eq_true rfl, Nat.le_of_ble_eq_true rfl, rfl, rfl⟩ rfl hl.1 rfl (Nat.le_of_ble_eq_true rfl) (by show _ + 0 ≤ 600128; omega) (by show _ + 0 ≤ 7301098; omega) (fun H1 locs1 P1 => ?_)
  show W p l e room_1 s m args below meth c _ _ _ _ Q (F0 m 477 _ [.int v, .int v])
  refine lv_icmp_eq (tgt := 1056) X.1.1 X.1.2.1 dL_law_477 (by decide) (fun _ => ?_) (fun q9 => absurd rfl q9)
  exact hk B1 N1 wc1 wm1 ex0 f _ _ _ _ _ P1 hKR1 hl (by show _ ≤ cells + 26; omega) (by show _ ≤ slots + 7884; omega)
set_option maxHeartbeats 2000000 in
theorem law_11 (X : LX p l s m args c cL_law Gc Gm A) (hXs : va_X b L xs s s.heap) (hbl : b < s.heap.size) (hbA : ¬ A b) (hiL : i + 3 < L) (hL : L ≤ 256) (P0 : lwP Gc Gm o f wc wm ex A s.heap H locs) (hKR : KR B N wc wm) (hl : lv_has ls 7 [(0, .ref b), (1, .ref (Gc.2.2 0)), (2, .ref (Gm.2.2 0)), (3, .ref o), (4, .int (nI i))]) (hcl : cells + 26 ≤ 600128) (hsl : slots + 7884 ≤ 7301098)
    (hk : ∀ (B N : _) (wc wm : xW) (ex : va_W) (f : Nat → Int64) (H : Heap) (locs : List Loc) (ls : Array Slot) (cl sl : Nat), lwP Gc Gm o f wc wm ex A s.heap H locs → KR B N wc wm → lv_has ls 7 [(0, .ref b), (1, .ref (Gc.2.2 0)), (2, .ref (Gm.2.2 0)), (3, .ref o), (4, .int (nI i))] → cl ≤ cells + 26 → sl ≤ slots + 7884 → W p l e room_1 s m args below meth c H locs cl sl Q (F0 m 1056 ls [])) :
    W p l e room_1 s m args below meth c H locs cells slots Q (F0 m 482 ls []) := by
  rcases give_p hKR (xs (i + 1)) (((xs (i + 2)).toInt64 <<< ((32 : Int32).toInt64 &&& 63)) ||| ((xs (i + 3)).toInt64 &&& (4294967295 : Int64))) with ⟨v, wc1, wm1, B1, N1, e1, e2, hKR1, ht0⟩ | ⟨pcx, cx, v, wm1, B1, N1, hmem, e1, e2, hKR1, ht0⟩
  · refine lv_aload_n X.1.1 X.1.2.1 dL_law_482 rfl (lv_at hl 1 rfl) ?_
    refine law_arg (k := 1) (n0 := 0) (n4 := 4) X hXs hbl hbA P0.2.2.2.2.1 hl rfl rfl (by omega) hL (by decide) (by decide) dL_law_483 dL_law_484 dL_law_486 dL_law_487 dL_law_488 ?_
    refine law_arg (k := 2) (n0 := 0) (n4 := 4) X hXs hbl hbA P0.2.2.2.2.1 hl rfl rfl (by omega) hL (by decide) (by decide) dL_law_489 dL_law_490 dL_law_492 dL_law_493 dL_law_494 ?_
    refine lv_i2l X.1.1 X.1.2.1 dL_law_495 rfl ?_
    refine lv_bipush (v := 32) X.1.1 X.1.2.1 dL_law_496 (by decide) ?_
    refine lv_lshl X.1.1 X.1.2.1 dL_law_498 rfl ?_
    refine law_arg (k := 3) (n0 := 0) (n4 := 4) X hXs hbl hbA P0.2.2.2.2.1 hl rfl rfl (by omega) hL (by decide) (by decide) dL_law_499 dL_law_500 dL_law_502 dL_law_503 dL_law_504 ?_
    refine lv_i2l X.1.1 X.1.2.1 dL_law_505 rfl ?_
    refine lv_ldc2 (v := 4294967295) X.1.1 X.1.2.1 X.1.2.2.2.1 (X.1.2.2.2.2 _ tw2429) dL_law_506 ?_
    refine lv_land X.1.1 X.1.2.1 dL_law_509 ?_
    refine lv_lor X.1.1 X.1.2.1 dL_law_510 ?_
    refine lv_aload_n X.1.1 X.1.2.1 dL_law_511 rfl (lv_at hl 3 rfl) ?_
    refine law_h (n := 4) (idx := 107) (rest := []) X P0 dL_law_512 (hL_give_r e1) tw1481 tw152 tw1480 tw1479 ⟨⟨by decide, by decide⟩, by decide +kernel⟩ ⟨Nat.le_of_ble_eq_true rfl, Nat.le_of_ble_eq_true rfl⟩ rfl hl.1 rfl (Nat.le_of_ble_eq_true rfl) (by show _ + 1 ≤ 600128; omega) (by show _ + 6 ≤ 7301098; omega) (fun H0 locs0 ex0 f0 hf0 P0 => ?_)
    show W p l e room_1 s m args below meth c _ _ _ _ Q (F0 m 515 _ [.int 0])
    refine lv_istore (nL := 7) (lv' := [(5, .int 0), (0, .ref b), (1, .ref (Gc.2.2 0)), (2, .ref (Gm.2.2 0)), (3, .ref o), (4, .int (nI i))]) X.1.1 X.1.2.1 dL_law_515 hl (by decide) rfl (fun ls5 hl5 => ?_)
    refine lv_aload_n X.1.1 X.1.2.1 dL_law_517 rfl (lv_at hl5 3 rfl) ?_
    refine law_arg (k := 1) (n0 := 1) (n4 := 5) X hXs hbl hbA P0.2.2.2.2.1 hl5 rfl rfl (by omega) hL (by decide) (by decide) dL_law_518 dL_law_519 dL_law_521 dL_law_522 dL_law_523 ?_
    refine law_arg (k := 2) (n0 := 1) (n4 := 5) X hXs hbl hbA P0.2.2.2.2.1 hl5 rfl rfl (by omega) hL (by decide) (by decide) dL_law_524 dL_law_525 dL_law_527 dL_law_528 dL_law_529 ?_
    refine lv_i2l X.1.1 X.1.2.1 dL_law_530 rfl ?_
    refine lv_bipush (v := 32) X.1.1 X.1.2.1 dL_law_531 (by decide) ?_
    refine lv_lshl X.1.1 X.1.2.1 dL_law_533 rfl ?_
    refine law_arg (k := 3) (n0 := 1) (n4 := 5) X hXs hbl hbA P0.2.2.2.2.1 hl5 rfl rfl (by omega) hL (by decide) (by decide) dL_law_534 dL_law_535 dL_law_537 dL_law_538 dL_law_539 ?_
    refine lv_i2l X.1.1 X.1.2.1 dL_law_540 rfl ?_
    refine lv_ldc2 (v := 4294967295) X.1.1 X.1.2.1 X.1.2.2.2.1 (X.1.2.2.2.2 _ tw2429) dL_law_541 ?_
    refine lv_land X.1.1 X.1.2.1 dL_law_544 ?_
    refine lv_lor X.1.1 X.1.2.1 dL_law_545 ?_
    refine law_m (jc := jI) (v := v) (w1 := wm1) (M2 := mX12_give) (n := 2) (idx := 109) (b2 := (0, 0)) (argv := [.int (xs (i + 1)), .long (((xs (i + 2)).toInt64 <<< ((32 : Int32).toInt64 &&& 63)) ||| ((xs (i + 3)).toInt64 &&& (4294967295 : Int64)))]) (rest := []) X P0 dL_law_546 (by rw [← e2]; exact kX12_give (xs (i + 1)) (((xs (i + 2)).toInt64 <<< ((32 : Int32).toInt64 &&& 63)) ||| ((xs (i + 3)).toInt64 &&& (4294967295 : Int64))) _) mkX12_give tw2260 rfl ⟨Nat.le_of_ble_eq_true rfl, Nat.le_of_ble_eq_true rfl, rfl, rfl⟩ rfl hl5.1 rfl (Nat.le_of_ble_eq_true rfl) (by show _ + 0 ≤ 600128; omega) (by show _ + 0 ≤ 7301098; omega) (fun H1 locs1 P1 => ?_)
    show W p l e room_1 s m args below meth c _ _ _ _ Q (F0 m 549 _ [.int v])
    refine lv_istore (nL := 7) (lv' := [(6, .int v), (5, .int 0), (0, .ref b), (1, .ref (Gc.2.2 0)), (2, .ref (Gm.2.2 0)), (3, .ref o), (4, .int (nI i))]) X.1.1 X.1.2.1 dL_law_549 hl5 (by decide) rfl (fun ls6 hl6 => ?_)
    refine lv_aload_n X.1.1 X.1.2.1 dL_law_551 rfl (lv_at hl6 4 rfl) ?_
    refine law_m (jc := jI) (v := 0) (w1 := wm1) (M2 := mX12_thrown) (n := 0) (idx := 62) (b2 := (0, 0)) (argv := []) (rest := []) X P1 dL_law_552 (by have h9 := kX12_thrown wm1; unfold sX12_thrown at h9; rw [ht0] at h9; exact h9) mkX12_thrown tw2047 rfl ⟨Nat.le_of_ble_eq_true rfl, Nat.le_of_ble_eq_true rfl, rfl, rfl⟩ rfl hl6.1 rfl (Nat.le_of_ble_eq_true rfl) (by show _ + 0 ≤ 600128; omega) (by show _ + 0 ≤ 7301098; omega) (fun H2 locs2 P2 => ?_)
    show W p l e room_1 s m args below meth c _ _ _ _ Q (F0 m 555 _ [.int 0])
    refine lv_iload X.1.1 X.1.2.1 dL_law_555 (lv_at hl6 1 rfl) ?_
    refine lv_icmp_eq (tgt := 562) X.1.1 X.1.2.1 dL_law_557 (by decide) (fun _ => ?_) (fun q9 => absurd rfl q9)
    refine lv_iload X.1.1 X.1.2.1 dL_law_562 (lv_at hl6 1 rfl) ?_
    refine lv_if_ne (tgt := 579) X.1.1 X.1.2.1 dL_law_564 (by decide) (fun q9 => absurd rfl q9) (fun _ => ?_)
    refine lv_aload_n X.1.1 X.1.2.1 dL_law_567 rfl (lv_at hl6 5 rfl) ?_
    refine lv_iconst (v := 0) X.1.1 X.1.2.1 dL_law_568 (by decide) ?_
    refine law_out X P2 dL_law_569 ?_
    refine lv_iload X.1.1 X.1.2.1 dL_law_570 (lv_at hl6 0 rfl) ?_
    refine lv_i2l X.1.1 X.1.2.1 dL_law_572 rfl ?_
    refine law_lcmp X.1.1 X.1.2.1 dL_law_573 ?_
    refine lv_if_eq (tgt := 579) X.1.1 X.1.2.1 dL_law_574 (by decide) (fun _ => ?_) (fun q9 => absurd ((lgc _ _).1.mpr hf0) q9)
    refine lv_goto (tgt := 1056) X.1.1 X.1.2.1 dL_law_579 (by decide) ?_
    exact hk B1 N1 wc1 wm1 ex0 f0 _ _ _ _ _ P2 hKR1 (lv_sub hl6 [2, 3, 4, 5, 6] rfl) (by show _ ≤ cells + 26; omega) (by show _ ≤ slots + 7884; omega)
  · simp only [List.mem_cons, Prod.mk.injEq, List.not_mem_nil, or_false] at hmem
    rcases hmem with ⟨rfl, rfl⟩
    refine lv_aload_n X.1.1 X.1.2.1 dL_law_482 rfl (lv_at hl 1 rfl) ?_
    refine law_arg (k := 1) (n0 := 0) (n4 := 4) X hXs hbl hbA P0.2.2.2.2.1 hl rfl rfl (by omega) hL (by decide) (by decide) dL_law_483 dL_law_484 dL_law_486 dL_law_487 dL_law_488 ?_
    refine law_arg (k := 2) (n0 := 0) (n4 := 4) X hXs hbl hbA P0.2.2.2.2.1 hl rfl rfl (by omega) hL (by decide) (by decide) dL_law_489 dL_law_490 dL_law_492 dL_law_493 dL_law_494 ?_
    refine lv_i2l X.1.1 X.1.2.1 dL_law_495 rfl ?_
    refine lv_bipush (v := 32) X.1.1 X.1.2.1 dL_law_496 (by decide) ?_
    refine lv_lshl X.1.1 X.1.2.1 dL_law_498 rfl ?_
    refine law_arg (k := 3) (n0 := 0) (n4 := 4) X hXs hbl hbA P0.2.2.2.2.1 hl rfl rfl (by omega) hL (by decide) (by decide) dL_law_499 dL_law_500 dL_law_502 dL_law_503 dL_law_504 ?_
    refine lv_i2l X.1.1 X.1.2.1 dL_law_505 rfl ?_
    refine lv_ldc2 (v := 4294967295) X.1.1 X.1.2.1 X.1.2.2.2.1 (X.1.2.2.2.2 _ tw2429) dL_law_506 ?_
    refine lv_land X.1.1 X.1.2.1 dL_law_509 ?_
    refine lv_lor X.1.1 X.1.2.1 dL_law_510 ?_
    refine lv_aload_n X.1.1 X.1.2.1 dL_law_511 rfl (lv_at hl 3 rfl) ?_
    refine law_h (n := 4) (idx := 107) (rest := []) X P0 dL_law_512 (hL_give_t11 e1) tw1481 tw152 tw1480 tw1479 ⟨⟨by decide, by decide⟩, by decide +kernel⟩ ⟨Nat.le_of_ble_eq_true rfl, Nat.le_of_ble_eq_true rfl⟩ rfl hl.1 rfl (Nat.le_of_ble_eq_true rfl) (by show _ + 1 ≤ 600128; omega) (by show _ + 6 ≤ 7301098; omega) (fun H0 locs0 ex0 f0 hf0 P0 => ?_)
    show W p l e room_1 s m args below meth c _ _ _ _ Q (F0 m 515 _ [.int 1])
    refine lv_istore (nL := 7) (lv' := [(5, .int 1), (0, .ref b), (1, .ref (Gc.2.2 0)), (2, .ref (Gm.2.2 0)), (3, .ref o), (4, .int (nI i))]) X.1.1 X.1.2.1 dL_law_515 hl (by decide) rfl (fun ls5 hl5 => ?_)
    refine lv_aload_n X.1.1 X.1.2.1 dL_law_517 rfl (lv_at hl5 3 rfl) ?_
    refine law_arg (k := 1) (n0 := 1) (n4 := 5) X hXs hbl hbA P0.2.2.2.2.1 hl5 rfl rfl (by omega) hL (by decide) (by decide) dL_law_518 dL_law_519 dL_law_521 dL_law_522 dL_law_523 ?_
    refine law_arg (k := 2) (n0 := 1) (n4 := 5) X hXs hbl hbA P0.2.2.2.2.1 hl5 rfl rfl (by omega) hL (by decide) (by decide) dL_law_524 dL_law_525 dL_law_527 dL_law_528 dL_law_529 ?_
    refine lv_i2l X.1.1 X.1.2.1 dL_law_530 rfl ?_
    refine lv_bipush (v := 32) X.1.1 X.1.2.1 dL_law_531 (by decide) ?_
    refine lv_lshl X.1.1 X.1.2.1 dL_law_533 rfl ?_
    refine law_arg (k := 3) (n0 := 1) (n4 := 5) X hXs hbl hbA P0.2.2.2.2.1 hl5 rfl rfl (by omega) hL (by decide) (by decide) dL_law_534 dL_law_535 dL_law_537 dL_law_538 dL_law_539 ?_
    refine lv_i2l X.1.1 X.1.2.1 dL_law_540 rfl ?_
    refine lv_ldc2 (v := 4294967295) X.1.1 X.1.2.1 X.1.2.2.2.1 (X.1.2.2.2.2 _ tw2429) dL_law_541 ?_
    refine lv_land X.1.1 X.1.2.1 dL_law_544 ?_
    refine lv_lor X.1.1 X.1.2.1 dL_law_545 ?_
    refine law_m (jc := jI) (v := v) (w1 := wm1) (M2 := mX12_give) (n := 2) (idx := 109) (b2 := (0, 0)) (argv := [.int (xs (i + 1)), .long (((xs (i + 2)).toInt64 <<< ((32 : Int32).toInt64 &&& 63)) ||| ((xs (i + 3)).toInt64 &&& (4294967295 : Int64)))]) (rest := []) X P0 dL_law_546 (by rw [← e2]; exact kX12_give (xs (i + 1)) (((xs (i + 2)).toInt64 <<< ((32 : Int32).toInt64 &&& 63)) ||| ((xs (i + 3)).toInt64 &&& (4294967295 : Int64))) _) mkX12_give tw2260 rfl ⟨Nat.le_of_ble_eq_true rfl, Nat.le_of_ble_eq_true rfl, rfl, rfl⟩ rfl hl5.1 rfl (Nat.le_of_ble_eq_true rfl) (by show _ + 0 ≤ 600128; omega) (by show _ + 0 ≤ 7301098; omega) (fun H1 locs1 P1 => ?_)
    show W p l e room_1 s m args below meth c _ _ _ _ Q (F0 m 549 _ [.int v])
    refine lv_istore (nL := 7) (lv' := [(6, .int v), (5, .int 1), (0, .ref b), (1, .ref (Gc.2.2 0)), (2, .ref (Gm.2.2 0)), (3, .ref o), (4, .int (nI i))]) X.1.1 X.1.2.1 dL_law_549 hl5 (by decide) rfl (fun ls6 hl6 => ?_)
    refine lv_aload_n X.1.1 X.1.2.1 dL_law_551 rfl (lv_at hl6 4 rfl) ?_
    refine law_m (jc := jI) (v := 1) (w1 := wm1) (M2 := mX12_thrown) (n := 0) (idx := 62) (b2 := (0, 0)) (argv := []) (rest := []) X P1 dL_law_552 (by have h9 := kX12_thrown wm1; unfold sX12_thrown at h9; rw [ht0] at h9; exact h9) mkX12_thrown tw2047 rfl ⟨Nat.le_of_ble_eq_true rfl, Nat.le_of_ble_eq_true rfl, rfl, rfl⟩ rfl hl6.1 rfl (Nat.le_of_ble_eq_true rfl) (by show _ + 0 ≤ 600128; omega) (by show _ + 0 ≤ 7301098; omega) (fun H2 locs2 P2 => ?_)
    show W p l e room_1 s m args below meth c _ _ _ _ Q (F0 m 555 _ [.int 1])
    refine lv_iload X.1.1 X.1.2.1 dL_law_555 (lv_at hl6 1 rfl) ?_
    refine lv_icmp_eq (tgt := 562) X.1.1 X.1.2.1 dL_law_557 (by decide) (fun _ => ?_) (fun q9 => absurd rfl q9)
    refine lv_iload X.1.1 X.1.2.1 dL_law_562 (lv_at hl6 1 rfl) ?_
    refine lv_if_ne (tgt := 579) X.1.1 X.1.2.1 dL_law_564 (by decide) (fun _ => ?_) (fun q9 => absurd q9 (by decide))
    refine lv_goto (tgt := 1056) X.1.1 X.1.2.1 dL_law_579 (by decide) ?_
    exact hk B1 N1 wc wm1 ex0 f0 _ _ _ _ _ P2 hKR1 (lv_sub hl6 [2, 3, 4, 5, 6] rfl) (by show _ ≤ cells + 26; omega) (by show _ ≤ slots + 7884; omega)
set_option maxHeartbeats 2000000 in
theorem law_12 (X : LX p l s m args c cL_law Gc Gm A) (hXs : va_X b L xs s s.heap) (hbl : b < s.heap.size) (hbA : ¬ A b) (hiL : i + 3 < L) (hL : L ≤ 256) (P0 : lwP Gc Gm o f wc wm ex A s.heap H locs) (hKR : KR B N wc wm) (hl : lv_has ls 7 [(0, .ref b), (1, .ref (Gc.2.2 0)), (2, .ref (Gm.2.2 0)), (3, .ref o), (4, .int (nI i))]) (hcl : cells + 26 ≤ 600128) (hsl : slots + 7884 ≤ 7301098)
    (hk : ∀ (B N : _) (wc wm : xW) (ex : va_W) (f : Nat → Int64) (H : Heap) (locs : List Loc) (ls : Array Slot) (cl sl : Nat), lwP Gc Gm o f wc wm ex A s.heap H locs → KR B N wc wm → lv_has ls 7 [(0, .ref b), (1, .ref (Gc.2.2 0)), (2, .ref (Gm.2.2 0)), (3, .ref o), (4, .int (nI i))] → cl ≤ cells + 26 → sl ≤ slots + 7884 → W p l e room_1 s m args below meth c H locs cl sl Q (F0 m 1056 ls [])) :
    W p l e room_1 s m args below meth c H locs cells slots Q (F0 m 582 ls []) := by
  by_cases hz : xs (i + 1) = 0
  · rcases begin_p hKR (0 : Int32) with ⟨v, wc1, wm1, B1, N1, e1, e2, hKR1, ht0⟩ | ⟨pcx, cx, v, wm1, B1, N1, hmem, e1, e2, hKR1, ht0⟩
    · refine lv_aload_n X.1.1 X.1.2.1 dL_law_582 rfl (lv_at hl 1 rfl) ?_
      refine law_arg (k := 1) (n0 := 0) (n4 := 4) X hXs hbl hbA P0.2.2.2.2.1 hl rfl rfl (by omega) hL (by decide) (by decide) dL_law_583 dL_law_584 dL_law_586 dL_law_587 dL_law_588 ?_
      refine lv_if_eq (tgt := 596) X.1.1 X.1.2.1 dL_law_589 (by decide) (fun _ => ?_) (fun q9 => absurd hz q9)
      refine lv_iconst (v := 0) X.1.1 X.1.2.1 dL_law_596 (by decide) ?_
      refine law_h (n := 2) (idx := 110) (rest := []) X P0 dL_law_597 (hL_begin_r e1) tw1492 tw152 tw1491 tw1490 ⟨⟨by decide, by decide⟩, by decide +kernel⟩ ⟨Nat.le_of_ble_eq_true rfl, Nat.le_of_ble_eq_true rfl⟩ rfl hl.1 rfl (Nat.le_of_ble_eq_true rfl) (by show _ + 1 ≤ 600128; omega) (by show _ + 6 ≤ 7301098; omega) (fun H0 locs0 ex0 f0 hf0 P0 => ?_)
      show W p l e room_1 s m args below meth c _ _ _ _ Q (F0 m 600 _ [.int 0])
      refine lv_istore (nL := 7) (lv' := [(5, .int 0), (0, .ref b), (1, .ref (Gc.2.2 0)), (2, .ref (Gm.2.2 0)), (3, .ref o), (4, .int (nI i))]) X.1.1 X.1.2.1 dL_law_600 hl (by decide) rfl (fun ls5 hl5 => ?_)
      refine lv_aload_n X.1.1 X.1.2.1 dL_law_602 rfl (lv_at hl5 3 rfl) ?_
      refine law_arg (k := 1) (n0 := 1) (n4 := 5) X hXs hbl hbA P0.2.2.2.2.1 hl5 rfl rfl (by omega) hL (by decide) (by decide) dL_law_603 dL_law_604 dL_law_606 dL_law_607 dL_law_608 ?_
      refine lv_if_eq (tgt := 616) X.1.1 X.1.2.1 dL_law_609 (by decide) (fun _ => ?_) (fun q9 => absurd hz q9)
      refine lv_iconst (v := 0) X.1.1 X.1.2.1 dL_law_616 (by decide) ?_
      refine law_m (jc := jV) (v := v) (w1 := wm1) (M2 := mX12_begin) (n := 1) (idx := 113) (b2 := (0, 0)) (argv := [.int (0 : Int32)]) (rest := []) X P0 dL_law_617 (by rw [← e2]; exact kX12_begin (0 : Int32) _) mkX12_begin tw2264 rfl ⟨Nat.le_of_ble_eq_true rfl, Nat.le_of_ble_eq_true rfl, rfl, rfl⟩ rfl hl5.1 rfl (Nat.le_of_ble_eq_true rfl) (by show _ + 0 ≤ 600128; omega) (by show _ + 0 ≤ 7301098; omega) (fun H1 locs1 P1 => ?_)
      show W p l e room_1 s m args below meth c _ _ _ _ Q (F0 m 620 _ [])
      refine lv_aload_n X.1.1 X.1.2.1 dL_law_620 rfl (lv_at hl5 3 rfl) ?_
      refine law_m (jc := jI) (v := 0) (w1 := wm1) (M2 := mX12_thrown) (n := 0) (idx := 62) (b2 := (0, 0)) (argv := []) (rest := []) X P1 dL_law_621 (by have h9 := kX12_thrown wm1; unfold sX12_thrown at h9; rw [ht0] at h9; exact h9) mkX12_thrown tw2047 rfl ⟨Nat.le_of_ble_eq_true rfl, Nat.le_of_ble_eq_true rfl, rfl, rfl⟩ rfl hl5.1 rfl (Nat.le_of_ble_eq_true rfl) (by show _ + 0 ≤ 600128; omega) (by show _ + 0 ≤ 7301098; omega) (fun H2 locs2 P2 => ?_)
      show W p l e room_1 s m args below meth c _ _ _ _ Q (F0 m 624 _ [.int 0])
      refine lv_iload X.1.1 X.1.2.1 dL_law_624 (lv_at hl5 0 rfl) ?_
      refine lv_icmp_eq (tgt := 631) X.1.1 X.1.2.1 dL_law_626 (by decide) (fun _ => ?_) (fun q9 => absurd rfl q9)
      refine lv_goto (tgt := 1056) X.1.1 X.1.2.1 dL_law_631 (by decide) ?_
      exact hk B1 N1 wc1 wm1 ex0 f0 _ _ _ _ _ P2 hKR1 (lv_sub hl5 [1, 2, 3, 4, 5] rfl) (by show _ ≤ cells + 26; omega) (by show _ ≤ slots + 7884; omega)
    · simp only [List.mem_cons, Prod.mk.injEq, List.not_mem_nil, or_false] at hmem
      rcases hmem with ⟨rfl, rfl⟩ | ⟨rfl, rfl⟩
      · refine lv_aload_n X.1.1 X.1.2.1 dL_law_582 rfl (lv_at hl 1 rfl) ?_
        refine law_arg (k := 1) (n0 := 0) (n4 := 4) X hXs hbl hbA P0.2.2.2.2.1 hl rfl rfl (by omega) hL (by decide) (by decide) dL_law_583 dL_law_584 dL_law_586 dL_law_587 dL_law_588 ?_
        refine lv_if_eq (tgt := 596) X.1.1 X.1.2.1 dL_law_589 (by decide) (fun _ => ?_) (fun q9 => absurd hz q9)
        refine lv_iconst (v := 0) X.1.1 X.1.2.1 dL_law_596 (by decide) ?_
        refine law_h (n := 2) (idx := 110) (rest := []) X P0 dL_law_597 (hL_begin_t14 e1) tw1492 tw152 tw1491 tw1490 ⟨⟨by decide, by decide⟩, by decide +kernel⟩ ⟨Nat.le_of_ble_eq_true rfl, Nat.le_of_ble_eq_true rfl⟩ rfl hl.1 rfl (Nat.le_of_ble_eq_true rfl) (by show _ + 1 ≤ 600128; omega) (by show _ + 6 ≤ 7301098; omega) (fun H0 locs0 ex0 f0 hf0 P0 => ?_)
        show W p l e room_1 s m args below meth c _ _ _ _ Q (F0 m 600 _ [.int 1])
        refine lv_istore (nL := 7) (lv' := [(5, .int 1), (0, .ref b), (1, .ref (Gc.2.2 0)), (2, .ref (Gm.2.2 0)), (3, .ref o), (4, .int (nI i))]) X.1.1 X.1.2.1 dL_law_600 hl (by decide) rfl (fun ls5 hl5 => ?_)
        refine lv_aload_n X.1.1 X.1.2.1 dL_law_602 rfl (lv_at hl5 3 rfl) ?_
        refine law_arg (k := 1) (n0 := 1) (n4 := 5) X hXs hbl hbA P0.2.2.2.2.1 hl5 rfl rfl (by omega) hL (by decide) (by decide) dL_law_603 dL_law_604 dL_law_606 dL_law_607 dL_law_608 ?_
        refine lv_if_eq (tgt := 616) X.1.1 X.1.2.1 dL_law_609 (by decide) (fun _ => ?_) (fun q9 => absurd hz q9)
        refine lv_iconst (v := 0) X.1.1 X.1.2.1 dL_law_616 (by decide) ?_
        refine law_m (jc := jV) (v := v) (w1 := wm1) (M2 := mX12_begin) (n := 1) (idx := 113) (b2 := (0, 0)) (argv := [.int (0 : Int32)]) (rest := []) X P0 dL_law_617 (by rw [← e2]; exact kX12_begin (0 : Int32) _) mkX12_begin tw2264 rfl ⟨Nat.le_of_ble_eq_true rfl, Nat.le_of_ble_eq_true rfl, rfl, rfl⟩ rfl hl5.1 rfl (Nat.le_of_ble_eq_true rfl) (by show _ + 0 ≤ 600128; omega) (by show _ + 0 ≤ 7301098; omega) (fun H1 locs1 P1 => ?_)
        show W p l e room_1 s m args below meth c _ _ _ _ Q (F0 m 620 _ [])
        refine lv_aload_n X.1.1 X.1.2.1 dL_law_620 rfl (lv_at hl5 3 rfl) ?_
        refine law_m (jc := jI) (v := 1) (w1 := wm1) (M2 := mX12_thrown) (n := 0) (idx := 62) (b2 := (0, 0)) (argv := []) (rest := []) X P1 dL_law_621 (by have h9 := kX12_thrown wm1; unfold sX12_thrown at h9; rw [ht0] at h9; exact h9) mkX12_thrown tw2047 rfl ⟨Nat.le_of_ble_eq_true rfl, Nat.le_of_ble_eq_true rfl, rfl, rfl⟩ rfl hl5.1 rfl (Nat.le_of_ble_eq_true rfl) (by show _ + 0 ≤ 600128; omega) (by show _ + 0 ≤ 7301098; omega) (fun H2 locs2 P2 => ?_)
        show W p l e room_1 s m args below meth c _ _ _ _ Q (F0 m 624 _ [.int 1])
        refine lv_iload X.1.1 X.1.2.1 dL_law_624 (lv_at hl5 0 rfl) ?_
        refine lv_icmp_eq (tgt := 631) X.1.1 X.1.2.1 dL_law_626 (by decide) (fun _ => ?_) (fun q9 => absurd rfl q9)
        refine lv_goto (tgt := 1056) X.1.1 X.1.2.1 dL_law_631 (by decide) ?_
        exact hk B1 N1 wc wm1 ex0 f0 _ _ _ _ _ P2 hKR1 (lv_sub hl5 [1, 2, 3, 4, 5] rfl) (by show _ ≤ cells + 26; omega) (by show _ ≤ slots + 7884; omega)
      · refine lv_aload_n X.1.1 X.1.2.1 dL_law_582 rfl (lv_at hl 1 rfl) ?_
        refine law_arg (k := 1) (n0 := 0) (n4 := 4) X hXs hbl hbA P0.2.2.2.2.1 hl rfl rfl (by omega) hL (by decide) (by decide) dL_law_583 dL_law_584 dL_law_586 dL_law_587 dL_law_588 ?_
        refine lv_if_eq (tgt := 596) X.1.1 X.1.2.1 dL_law_589 (by decide) (fun _ => ?_) (fun q9 => absurd hz q9)
        refine lv_iconst (v := 0) X.1.1 X.1.2.1 dL_law_596 (by decide) ?_
        refine law_h (n := 2) (idx := 110) (rest := []) X P0 dL_law_597 (hL_begin_t34 e1) tw1492 tw152 tw1491 tw1490 ⟨⟨by decide, by decide⟩, by decide +kernel⟩ ⟨Nat.le_of_ble_eq_true rfl, Nat.le_of_ble_eq_true rfl⟩ rfl hl.1 rfl (Nat.le_of_ble_eq_true rfl) (by show _ + 1 ≤ 600128; omega) (by show _ + 6 ≤ 7301098; omega) (fun H0 locs0 ex0 f0 hf0 P0 => ?_)
        show W p l e room_1 s m args below meth c _ _ _ _ Q (F0 m 600 _ [.int 1])
        refine lv_istore (nL := 7) (lv' := [(5, .int 1), (0, .ref b), (1, .ref (Gc.2.2 0)), (2, .ref (Gm.2.2 0)), (3, .ref o), (4, .int (nI i))]) X.1.1 X.1.2.1 dL_law_600 hl (by decide) rfl (fun ls5 hl5 => ?_)
        refine lv_aload_n X.1.1 X.1.2.1 dL_law_602 rfl (lv_at hl5 3 rfl) ?_
        refine law_arg (k := 1) (n0 := 1) (n4 := 5) X hXs hbl hbA P0.2.2.2.2.1 hl5 rfl rfl (by omega) hL (by decide) (by decide) dL_law_603 dL_law_604 dL_law_606 dL_law_607 dL_law_608 ?_
        refine lv_if_eq (tgt := 616) X.1.1 X.1.2.1 dL_law_609 (by decide) (fun _ => ?_) (fun q9 => absurd hz q9)
        refine lv_iconst (v := 0) X.1.1 X.1.2.1 dL_law_616 (by decide) ?_
        refine law_m (jc := jV) (v := v) (w1 := wm1) (M2 := mX12_begin) (n := 1) (idx := 113) (b2 := (0, 0)) (argv := [.int (0 : Int32)]) (rest := []) X P0 dL_law_617 (by rw [← e2]; exact kX12_begin (0 : Int32) _) mkX12_begin tw2264 rfl ⟨Nat.le_of_ble_eq_true rfl, Nat.le_of_ble_eq_true rfl, rfl, rfl⟩ rfl hl5.1 rfl (Nat.le_of_ble_eq_true rfl) (by show _ + 0 ≤ 600128; omega) (by show _ + 0 ≤ 7301098; omega) (fun H1 locs1 P1 => ?_)
        show W p l e room_1 s m args below meth c _ _ _ _ Q (F0 m 620 _ [])
        refine lv_aload_n X.1.1 X.1.2.1 dL_law_620 rfl (lv_at hl5 3 rfl) ?_
        refine law_m (jc := jI) (v := 1) (w1 := wm1) (M2 := mX12_thrown) (n := 0) (idx := 62) (b2 := (0, 0)) (argv := []) (rest := []) X P1 dL_law_621 (by have h9 := kX12_thrown wm1; unfold sX12_thrown at h9; rw [ht0] at h9; exact h9) mkX12_thrown tw2047 rfl ⟨Nat.le_of_ble_eq_true rfl, Nat.le_of_ble_eq_true rfl, rfl, rfl⟩ rfl hl5.1 rfl (Nat.le_of_ble_eq_true rfl) (by show _ + 0 ≤ 600128; omega) (by show _ + 0 ≤ 7301098; omega) (fun H2 locs2 P2 => ?_)
        show W p l e room_1 s m args below meth c _ _ _ _ Q (F0 m 624 _ [.int 1])
        refine lv_iload X.1.1 X.1.2.1 dL_law_624 (lv_at hl5 0 rfl) ?_
        refine lv_icmp_eq (tgt := 631) X.1.1 X.1.2.1 dL_law_626 (by decide) (fun _ => ?_) (fun q9 => absurd rfl q9)
        refine lv_goto (tgt := 1056) X.1.1 X.1.2.1 dL_law_631 (by decide) ?_
        exact hk B1 N1 wc wm1 ex0 f0 _ _ _ _ _ P2 hKR1 (lv_sub hl5 [1, 2, 3, 4, 5] rfl) (by show _ ≤ cells + 26; omega) (by show _ ≤ slots + 7884; omega)
  · rcases begin_p hKR (1 : Int32) with ⟨v, wc1, wm1, B1, N1, e1, e2, hKR1, ht0⟩ | ⟨pcx, cx, v, wm1, B1, N1, hmem, e1, e2, hKR1, ht0⟩
    · refine lv_aload_n X.1.1 X.1.2.1 dL_law_582 rfl (lv_at hl 1 rfl) ?_
      refine law_arg (k := 1) (n0 := 0) (n4 := 4) X hXs hbl hbA P0.2.2.2.2.1 hl rfl rfl (by omega) hL (by decide) (by decide) dL_law_583 dL_law_584 dL_law_586 dL_law_587 dL_law_588 ?_
      refine lv_if_eq (tgt := 596) X.1.1 X.1.2.1 dL_law_589 (by decide) (fun q9 => absurd q9 hz) (fun _ => ?_)
      refine lv_iconst (v := 1) X.1.1 X.1.2.1 dL_law_592 (by decide) ?_
      refine lv_goto (tgt := 597) X.1.1 X.1.2.1 dL_law_593 (by decide) ?_
      refine law_h (n := 2) (idx := 110) (rest := []) X P0 dL_law_597 (hL_begin_r e1) tw1492 tw152 tw1491 tw1490 ⟨⟨by decide, by decide⟩, by decide +kernel⟩ ⟨Nat.le_of_ble_eq_true rfl, Nat.le_of_ble_eq_true rfl⟩ rfl hl.1 rfl (Nat.le_of_ble_eq_true rfl) (by show _ + 1 ≤ 600128; omega) (by show _ + 6 ≤ 7301098; omega) (fun H0 locs0 ex0 f0 hf0 P0 => ?_)
      show W p l e room_1 s m args below meth c _ _ _ _ Q (F0 m 600 _ [.int 0])
      refine lv_istore (nL := 7) (lv' := [(5, .int 0), (0, .ref b), (1, .ref (Gc.2.2 0)), (2, .ref (Gm.2.2 0)), (3, .ref o), (4, .int (nI i))]) X.1.1 X.1.2.1 dL_law_600 hl (by decide) rfl (fun ls5 hl5 => ?_)
      refine lv_aload_n X.1.1 X.1.2.1 dL_law_602 rfl (lv_at hl5 3 rfl) ?_
      refine law_arg (k := 1) (n0 := 1) (n4 := 5) X hXs hbl hbA P0.2.2.2.2.1 hl5 rfl rfl (by omega) hL (by decide) (by decide) dL_law_603 dL_law_604 dL_law_606 dL_law_607 dL_law_608 ?_
      refine lv_if_eq (tgt := 616) X.1.1 X.1.2.1 dL_law_609 (by decide) (fun q9 => absurd q9 hz) (fun _ => ?_)
      refine lv_iconst (v := 1) X.1.1 X.1.2.1 dL_law_612 (by decide) ?_
      refine lv_goto (tgt := 617) X.1.1 X.1.2.1 dL_law_613 (by decide) ?_
      refine law_m (jc := jV) (v := v) (w1 := wm1) (M2 := mX12_begin) (n := 1) (idx := 113) (b2 := (0, 0)) (argv := [.int (1 : Int32)]) (rest := []) X P0 dL_law_617 (by rw [← e2]; exact kX12_begin (1 : Int32) _) mkX12_begin tw2264 rfl ⟨Nat.le_of_ble_eq_true rfl, Nat.le_of_ble_eq_true rfl, rfl, rfl⟩ rfl hl5.1 rfl (Nat.le_of_ble_eq_true rfl) (by show _ + 0 ≤ 600128; omega) (by show _ + 0 ≤ 7301098; omega) (fun H1 locs1 P1 => ?_)
      show W p l e room_1 s m args below meth c _ _ _ _ Q (F0 m 620 _ [])
      refine lv_aload_n X.1.1 X.1.2.1 dL_law_620 rfl (lv_at hl5 3 rfl) ?_
      refine law_m (jc := jI) (v := 0) (w1 := wm1) (M2 := mX12_thrown) (n := 0) (idx := 62) (b2 := (0, 0)) (argv := []) (rest := []) X P1 dL_law_621 (by have h9 := kX12_thrown wm1; unfold sX12_thrown at h9; rw [ht0] at h9; exact h9) mkX12_thrown tw2047 rfl ⟨Nat.le_of_ble_eq_true rfl, Nat.le_of_ble_eq_true rfl, rfl, rfl⟩ rfl hl5.1 rfl (Nat.le_of_ble_eq_true rfl) (by show _ + 0 ≤ 600128; omega) (by show _ + 0 ≤ 7301098; omega) (fun H2 locs2 P2 => ?_)
      show W p l e room_1 s m args below meth c _ _ _ _ Q (F0 m 624 _ [.int 0])
      refine lv_iload X.1.1 X.1.2.1 dL_law_624 (lv_at hl5 0 rfl) ?_
      refine lv_icmp_eq (tgt := 631) X.1.1 X.1.2.1 dL_law_626 (by decide) (fun _ => ?_) (fun q9 => absurd rfl q9)
      refine lv_goto (tgt := 1056) X.1.1 X.1.2.1 dL_law_631 (by decide) ?_
      exact hk B1 N1 wc1 wm1 ex0 f0 _ _ _ _ _ P2 hKR1 (lv_sub hl5 [1, 2, 3, 4, 5] rfl) (by show _ ≤ cells + 26; omega) (by show _ ≤ slots + 7884; omega)
    · simp only [List.mem_cons, Prod.mk.injEq, List.not_mem_nil, or_false] at hmem
      rcases hmem with ⟨rfl, rfl⟩ | ⟨rfl, rfl⟩
      · refine lv_aload_n X.1.1 X.1.2.1 dL_law_582 rfl (lv_at hl 1 rfl) ?_
        refine law_arg (k := 1) (n0 := 0) (n4 := 4) X hXs hbl hbA P0.2.2.2.2.1 hl rfl rfl (by omega) hL (by decide) (by decide) dL_law_583 dL_law_584 dL_law_586 dL_law_587 dL_law_588 ?_
        refine lv_if_eq (tgt := 596) X.1.1 X.1.2.1 dL_law_589 (by decide) (fun q9 => absurd q9 hz) (fun _ => ?_)
        refine lv_iconst (v := 1) X.1.1 X.1.2.1 dL_law_592 (by decide) ?_
        refine lv_goto (tgt := 597) X.1.1 X.1.2.1 dL_law_593 (by decide) ?_
        refine law_h (n := 2) (idx := 110) (rest := []) X P0 dL_law_597 (hL_begin_t14 e1) tw1492 tw152 tw1491 tw1490 ⟨⟨by decide, by decide⟩, by decide +kernel⟩ ⟨Nat.le_of_ble_eq_true rfl, Nat.le_of_ble_eq_true rfl⟩ rfl hl.1 rfl (Nat.le_of_ble_eq_true rfl) (by show _ + 1 ≤ 600128; omega) (by show _ + 6 ≤ 7301098; omega) (fun H0 locs0 ex0 f0 hf0 P0 => ?_)
        show W p l e room_1 s m args below meth c _ _ _ _ Q (F0 m 600 _ [.int 1])
        refine lv_istore (nL := 7) (lv' := [(5, .int 1), (0, .ref b), (1, .ref (Gc.2.2 0)), (2, .ref (Gm.2.2 0)), (3, .ref o), (4, .int (nI i))]) X.1.1 X.1.2.1 dL_law_600 hl (by decide) rfl (fun ls5 hl5 => ?_)
        refine lv_aload_n X.1.1 X.1.2.1 dL_law_602 rfl (lv_at hl5 3 rfl) ?_
        refine law_arg (k := 1) (n0 := 1) (n4 := 5) X hXs hbl hbA P0.2.2.2.2.1 hl5 rfl rfl (by omega) hL (by decide) (by decide) dL_law_603 dL_law_604 dL_law_606 dL_law_607 dL_law_608 ?_
        refine lv_if_eq (tgt := 616) X.1.1 X.1.2.1 dL_law_609 (by decide) (fun q9 => absurd q9 hz) (fun _ => ?_)
        refine lv_iconst (v := 1) X.1.1 X.1.2.1 dL_law_612 (by decide) ?_
        refine lv_goto (tgt := 617) X.1.1 X.1.2.1 dL_law_613 (by decide) ?_
        refine law_m (jc := jV) (v := v) (w1 := wm1) (M2 := mX12_begin) (n := 1) (idx := 113) (b2 := (0, 0)) (argv := [.int (1 : Int32)]) (rest := []) X P0 dL_law_617 (by rw [← e2]; exact kX12_begin (1 : Int32) _) mkX12_begin tw2264 rfl ⟨Nat.le_of_ble_eq_true rfl, Nat.le_of_ble_eq_true rfl, rfl, rfl⟩ rfl hl5.1 rfl (Nat.le_of_ble_eq_true rfl) (by show _ + 0 ≤ 600128; omega) (by show _ + 0 ≤ 7301098; omega) (fun H1 locs1 P1 => ?_)
        show W p l e room_1 s m args below meth c _ _ _ _ Q (F0 m 620 _ [])
        refine lv_aload_n X.1.1 X.1.2.1 dL_law_620 rfl (lv_at hl5 3 rfl) ?_
        refine law_m (jc := jI) (v := 1) (w1 := wm1) (M2 := mX12_thrown) (n := 0) (idx := 62) (b2 := (0, 0)) (argv := []) (rest := []) X P1 dL_law_621 (by have h9 := kX12_thrown wm1; unfold sX12_thrown at h9; rw [ht0] at h9; exact h9) mkX12_thrown tw2047 rfl ⟨Nat.le_of_ble_eq_true rfl, Nat.le_of_ble_eq_true rfl, rfl, rfl⟩ rfl hl5.1 rfl (Nat.le_of_ble_eq_true rfl) (by show _ + 0 ≤ 600128; omega) (by show _ + 0 ≤ 7301098; omega) (fun H2 locs2 P2 => ?_)
        show W p l e room_1 s m args below meth c _ _ _ _ Q (F0 m 624 _ [.int 1])
        refine lv_iload X.1.1 X.1.2.1 dL_law_624 (lv_at hl5 0 rfl) ?_
        refine lv_icmp_eq (tgt := 631) X.1.1 X.1.2.1 dL_law_626 (by decide) (fun _ => ?_) (fun q9 => absurd rfl q9)
        refine lv_goto (tgt := 1056) X.1.1 X.1.2.1 dL_law_631 (by decide) ?_
        exact hk B1 N1 wc wm1 ex0 f0 _ _ _ _ _ P2 hKR1 (lv_sub hl5 [1, 2, 3, 4, 5] rfl) (by show _ ≤ cells + 26; omega) (by show _ ≤ slots + 7884; omega)
      · refine lv_aload_n X.1.1 X.1.2.1 dL_law_582 rfl (lv_at hl 1 rfl) ?_
        refine law_arg (k := 1) (n0 := 0) (n4 := 4) X hXs hbl hbA P0.2.2.2.2.1 hl rfl rfl (by omega) hL (by decide) (by decide) dL_law_583 dL_law_584 dL_law_586 dL_law_587 dL_law_588 ?_
        refine lv_if_eq (tgt := 596) X.1.1 X.1.2.1 dL_law_589 (by decide) (fun q9 => absurd q9 hz) (fun _ => ?_)
        refine lv_iconst (v := 1) X.1.1 X.1.2.1 dL_law_592 (by decide) ?_
        refine lv_goto (tgt := 597) X.1.1 X.1.2.1 dL_law_593 (by decide) ?_
        refine law_h (n := 2) (idx := 110) (rest := []) X P0 dL_law_597 (hL_begin_t34 e1) tw1492 tw152 tw1491 tw1490 ⟨⟨by decide, by decide⟩, by decide +kernel⟩ ⟨Nat.le_of_ble_eq_true rfl, Nat.le_of_ble_eq_true rfl⟩ rfl hl.1 rfl (Nat.le_of_ble_eq_true rfl) (by show _ + 1 ≤ 600128; omega) (by show _ + 6 ≤ 7301098; omega) (fun H0 locs0 ex0 f0 hf0 P0 => ?_)
        show W p l e room_1 s m args below meth c _ _ _ _ Q (F0 m 600 _ [.int 1])
        refine lv_istore (nL := 7) (lv' := [(5, .int 1), (0, .ref b), (1, .ref (Gc.2.2 0)), (2, .ref (Gm.2.2 0)), (3, .ref o), (4, .int (nI i))]) X.1.1 X.1.2.1 dL_law_600 hl (by decide) rfl (fun ls5 hl5 => ?_)
        refine lv_aload_n X.1.1 X.1.2.1 dL_law_602 rfl (lv_at hl5 3 rfl) ?_
        refine law_arg (k := 1) (n0 := 1) (n4 := 5) X hXs hbl hbA P0.2.2.2.2.1 hl5 rfl rfl (by omega) hL (by decide) (by decide) dL_law_603 dL_law_604 dL_law_606 dL_law_607 dL_law_608 ?_
        refine lv_if_eq (tgt := 616) X.1.1 X.1.2.1 dL_law_609 (by decide) (fun q9 => absurd q9 hz) (fun _ => ?_)
        refine lv_iconst (v := 1) X.1.1 X.1.2.1 dL_law_612 (by decide) ?_
        refine lv_goto (tgt := 617) X.1.1 X.1.2.1 dL_law_613 (by decide) ?_
        refine law_m (jc := jV) (v := v) (w1 := wm1) (M2 := mX12_begin) (n := 1) (idx := 113) (b2 := (0, 0)) (argv := [.int (1 : Int32)]) (rest := []) X P0 dL_law_617 (by rw [← e2]; exact kX12_begin (1 : Int32) _) mkX12_begin tw2264 rfl ⟨Nat.le_of_ble_eq_true rfl, Nat.le_of_ble_eq_true rfl, rfl, rfl⟩ rfl hl5.1 rfl (Nat.le_of_ble_eq_true rfl) (by show _ + 0 ≤ 600128; omega) (by show _ + 0 ≤ 7301098; omega) (fun H1 locs1 P1 => ?_)
        show W p l e room_1 s m args below meth c _ _ _ _ Q (F0 m 620 _ [])
        refine lv_aload_n X.1.1 X.1.2.1 dL_law_620 rfl (lv_at hl5 3 rfl) ?_
        refine law_m (jc := jI) (v := 1) (w1 := wm1) (M2 := mX12_thrown) (n := 0) (idx := 62) (b2 := (0, 0)) (argv := []) (rest := []) X P1 dL_law_621 (by have h9 := kX12_thrown wm1; unfold sX12_thrown at h9; rw [ht0] at h9; exact h9) mkX12_thrown tw2047 rfl ⟨Nat.le_of_ble_eq_true rfl, Nat.le_of_ble_eq_true rfl, rfl, rfl⟩ rfl hl5.1 rfl (Nat.le_of_ble_eq_true rfl) (by show _ + 0 ≤ 600128; omega) (by show _ + 0 ≤ 7301098; omega) (fun H2 locs2 P2 => ?_)
        show W p l e room_1 s m args below meth c _ _ _ _ Q (F0 m 624 _ [.int 1])
        refine lv_iload X.1.1 X.1.2.1 dL_law_624 (lv_at hl5 0 rfl) ?_
        refine lv_icmp_eq (tgt := 631) X.1.1 X.1.2.1 dL_law_626 (by decide) (fun _ => ?_) (fun q9 => absurd rfl q9)
        refine lv_goto (tgt := 1056) X.1.1 X.1.2.1 dL_law_631 (by decide) ?_
        exact hk B1 N1 wc wm1 ex0 f0 _ _ _ _ _ P2 hKR1 (lv_sub hl5 [1, 2, 3, 4, 5] rfl) (by show _ ≤ cells + 26; omega) (by show _ ≤ slots + 7884; omega)
set_option maxHeartbeats 2000000 in
theorem law_13 (X : LX p l s m args c cL_law Gc Gm A) (hXs : va_X b L xs s s.heap) (hbl : b < s.heap.size) (hbA : ¬ A b) (hiL : i + 3 < L) (hL : L ≤ 256) (P0 : lwP Gc Gm o f wc wm ex A s.heap H locs) (hKR : KR B N wc wm) (hl : lv_has ls 7 [(0, .ref b), (1, .ref (Gc.2.2 0)), (2, .ref (Gm.2.2 0)), (3, .ref o), (4, .int (nI i))]) (hcl : cells + 26 ≤ 600128) (hsl : slots + 7884 ≤ 7301098)
    (hk : ∀ (B N : _) (wc wm : xW) (ex : va_W) (f : Nat → Int64) (H : Heap) (locs : List Loc) (ls : Array Slot) (cl sl : Nat), lwP Gc Gm o f wc wm ex A s.heap H locs → KR B N wc wm → lv_has ls 7 [(0, .ref b), (1, .ref (Gc.2.2 0)), (2, .ref (Gm.2.2 0)), (3, .ref o), (4, .int (nI i))] → cl ≤ cells + 26 → sl ≤ slots + 7884 → W p l e room_1 s m args below meth c H locs cl sl Q (F0 m 1056 ls [])) :
    W p l e room_1 s m args below meth c H locs cells slots Q (F0 m 634 ls []) := by
  rcases run_p hKR (xs (i + 1)) with ⟨v, wc1, wm1, B1, N1, e1, e2, hKR1, ht0⟩ | ⟨pcx, cx, v, wm1, B1, N1, hmem, e1, e2, hKR1, ht0⟩
  · refine lv_aload_n X.1.1 X.1.2.1 dL_law_634 rfl (lv_at hl 1 rfl) ?_
    refine law_arg (k := 1) (n0 := 0) (n4 := 4) X hXs hbl hbA P0.2.2.2.2.1 hl rfl rfl (by omega) hL (by decide) (by decide) dL_law_635 dL_law_636 dL_law_638 dL_law_639 dL_law_640 ?_
    refine lv_aload_n X.1.1 X.1.2.1 dL_law_641 rfl (lv_at hl 3 rfl) ?_
    refine law_h (n := 3) (idx := 114) (rest := []) X P0 dL_law_642 (hL_run_r e1) tw1522 tw152 tw1521 tw1520 ⟨⟨by decide, by decide⟩, by decide +kernel⟩ ⟨Nat.le_of_ble_eq_true rfl, Nat.le_of_ble_eq_true rfl⟩ rfl hl.1 rfl (Nat.le_of_ble_eq_true rfl) (by show _ + 1 ≤ 600128; omega) (by show _ + 6 ≤ 7301098; omega) (fun H0 locs0 ex0 f0 hf0 P0 => ?_)
    show W p l e room_1 s m args below meth c _ _ _ _ Q (F0 m 645 _ [.int 0])
    refine lv_istore (nL := 7) (lv' := [(5, .int 0), (0, .ref b), (1, .ref (Gc.2.2 0)), (2, .ref (Gm.2.2 0)), (3, .ref o), (4, .int (nI i))]) X.1.1 X.1.2.1 dL_law_645 hl (by decide) rfl (fun ls5 hl5 => ?_)
    refine lv_aload_n X.1.1 X.1.2.1 dL_law_647 rfl (lv_at hl5 3 rfl) ?_
    refine law_arg (k := 1) (n0 := 1) (n4 := 5) X hXs hbl hbA P0.2.2.2.2.1 hl5 rfl rfl (by omega) hL (by decide) (by decide) dL_law_648 dL_law_649 dL_law_651 dL_law_652 dL_law_653 ?_
    refine law_m (jc := jI) (v := v) (w1 := wm1) (M2 := mX12_run) (n := 1) (idx := 117) (b2 := (0, 0)) (argv := [.int (xs (i + 1))]) (rest := []) X P0 dL_law_654 (by rw [← e2]; exact kX12_run (xs (i + 1)) _) mkX12_run tw2268 rfl ⟨Nat.le_of_ble_eq_true rfl, Nat.le_of_ble_eq_true rfl, rfl, rfl⟩ rfl hl5.1 rfl (Nat.le_of_ble_eq_true rfl) (by show _ + 0 ≤ 600128; omega) (by show _ + 0 ≤ 7301098; omega) (fun H1 locs1 P1 => ?_)
    show W p l e room_1 s m args below meth c _ _ _ _ Q (F0 m 657 _ [.int v])
    refine lv_istore (nL := 7) (lv' := [(6, .int v), (5, .int 0), (0, .ref b), (1, .ref (Gc.2.2 0)), (2, .ref (Gm.2.2 0)), (3, .ref o), (4, .int (nI i))]) X.1.1 X.1.2.1 dL_law_657 hl5 (by decide) rfl (fun ls6 hl6 => ?_)
    refine lv_aload_n X.1.1 X.1.2.1 dL_law_659 rfl (lv_at hl6 4 rfl) ?_
    refine law_m (jc := jI) (v := 0) (w1 := wm1) (M2 := mX12_thrown) (n := 0) (idx := 62) (b2 := (0, 0)) (argv := []) (rest := []) X P1 dL_law_660 (by have h9 := kX12_thrown wm1; unfold sX12_thrown at h9; rw [ht0] at h9; exact h9) mkX12_thrown tw2047 rfl ⟨Nat.le_of_ble_eq_true rfl, Nat.le_of_ble_eq_true rfl, rfl, rfl⟩ rfl hl6.1 rfl (Nat.le_of_ble_eq_true rfl) (by show _ + 0 ≤ 600128; omega) (by show _ + 0 ≤ 7301098; omega) (fun H2 locs2 P2 => ?_)
    show W p l e room_1 s m args below meth c _ _ _ _ Q (F0 m 663 _ [.int 0])
    refine lv_iload X.1.1 X.1.2.1 dL_law_663 (lv_at hl6 1 rfl) ?_
    refine lv_icmp_eq (tgt := 670) X.1.1 X.1.2.1 dL_law_665 (by decide) (fun _ => ?_) (fun q9 => absurd rfl q9)
    refine lv_iload X.1.1 X.1.2.1 dL_law_670 (lv_at hl6 1 rfl) ?_
    refine lv_if_ne (tgt := 687) X.1.1 X.1.2.1 dL_law_672 (by decide) (fun q9 => absurd rfl q9) (fun _ => ?_)
    refine lv_aload_n X.1.1 X.1.2.1 dL_law_675 rfl (lv_at hl6 5 rfl) ?_
    refine lv_iconst (v := 0) X.1.1 X.1.2.1 dL_law_676 (by decide) ?_
    refine law_out X P2 dL_law_677 ?_
    refine lv_iload X.1.1 X.1.2.1 dL_law_678 (lv_at hl6 0 rfl) ?_
    refine lv_i2l X.1.1 X.1.2.1 dL_law_680 rfl ?_
    refine law_lcmp X.1.1 X.1.2.1 dL_law_681 ?_
    refine lv_if_eq (tgt := 687) X.1.1 X.1.2.1 dL_law_682 (by decide) (fun _ => ?_) (fun q9 => absurd ((lgc _ _).1.mpr hf0) q9)
    refine lv_goto (tgt := 1056) X.1.1 X.1.2.1 dL_law_687 (by decide) ?_
    exact hk B1 N1 wc1 wm1 ex0 f0 _ _ _ _ _ P2 hKR1 (lv_sub hl6 [2, 3, 4, 5, 6] rfl) (by show _ ≤ cells + 26; omega) (by show _ ≤ slots + 7884; omega)
  · simp only [List.mem_cons, Prod.mk.injEq, List.not_mem_nil, or_false] at hmem
    rcases hmem with ⟨rfl, rfl⟩ | ⟨rfl, rfl⟩
    · refine lv_aload_n X.1.1 X.1.2.1 dL_law_634 rfl (lv_at hl 1 rfl) ?_
      refine law_arg (k := 1) (n0 := 0) (n4 := 4) X hXs hbl hbA P0.2.2.2.2.1 hl rfl rfl (by omega) hL (by decide) (by decide) dL_law_635 dL_law_636 dL_law_638 dL_law_639 dL_law_640 ?_
      refine lv_aload_n X.1.1 X.1.2.1 dL_law_641 rfl (lv_at hl 3 rfl) ?_
      refine law_h (n := 3) (idx := 114) (rest := []) X P0 dL_law_642 (hL_run_t11 e1) tw1522 tw152 tw1521 tw1520 ⟨⟨by decide, by decide⟩, by decide +kernel⟩ ⟨Nat.le_of_ble_eq_true rfl, Nat.le_of_ble_eq_true rfl⟩ rfl hl.1 rfl (Nat.le_of_ble_eq_true rfl) (by show _ + 1 ≤ 600128; omega) (by show _ + 6 ≤ 7301098; omega) (fun H0 locs0 ex0 f0 hf0 P0 => ?_)
      show W p l e room_1 s m args below meth c _ _ _ _ Q (F0 m 645 _ [.int 1])
      refine lv_istore (nL := 7) (lv' := [(5, .int 1), (0, .ref b), (1, .ref (Gc.2.2 0)), (2, .ref (Gm.2.2 0)), (3, .ref o), (4, .int (nI i))]) X.1.1 X.1.2.1 dL_law_645 hl (by decide) rfl (fun ls5 hl5 => ?_)
      refine lv_aload_n X.1.1 X.1.2.1 dL_law_647 rfl (lv_at hl5 3 rfl) ?_
      refine law_arg (k := 1) (n0 := 1) (n4 := 5) X hXs hbl hbA P0.2.2.2.2.1 hl5 rfl rfl (by omega) hL (by decide) (by decide) dL_law_648 dL_law_649 dL_law_651 dL_law_652 dL_law_653 ?_
      refine law_m (jc := jI) (v := v) (w1 := wm1) (M2 := mX12_run) (n := 1) (idx := 117) (b2 := (0, 0)) (argv := [.int (xs (i + 1))]) (rest := []) X P0 dL_law_654 (by rw [← e2]; exact kX12_run (xs (i + 1)) _) mkX12_run tw2268 rfl ⟨Nat.le_of_ble_eq_true rfl, Nat.le_of_ble_eq_true rfl, rfl, rfl⟩ rfl hl5.1 rfl (Nat.le_of_ble_eq_true rfl) (by show _ + 0 ≤ 600128; omega) (by show _ + 0 ≤ 7301098; omega) (fun H1 locs1 P1 => ?_)
      show W p l e room_1 s m args below meth c _ _ _ _ Q (F0 m 657 _ [.int v])
      refine lv_istore (nL := 7) (lv' := [(6, .int v), (5, .int 1), (0, .ref b), (1, .ref (Gc.2.2 0)), (2, .ref (Gm.2.2 0)), (3, .ref o), (4, .int (nI i))]) X.1.1 X.1.2.1 dL_law_657 hl5 (by decide) rfl (fun ls6 hl6 => ?_)
      refine lv_aload_n X.1.1 X.1.2.1 dL_law_659 rfl (lv_at hl6 4 rfl) ?_
      refine law_m (jc := jI) (v := 1) (w1 := wm1) (M2 := mX12_thrown) (n := 0) (idx := 62) (b2 := (0, 0)) (argv := []) (rest := []) X P1 dL_law_660 (by have h9 := kX12_thrown wm1; unfold sX12_thrown at h9; rw [ht0] at h9; exact h9) mkX12_thrown tw2047 rfl ⟨Nat.le_of_ble_eq_true rfl, Nat.le_of_ble_eq_true rfl, rfl, rfl⟩ rfl hl6.1 rfl (Nat.le_of_ble_eq_true rfl) (by show _ + 0 ≤ 600128; omega) (by show _ + 0 ≤ 7301098; omega) (fun H2 locs2 P2 => ?_)
      show W p l e room_1 s m args below meth c _ _ _ _ Q (F0 m 663 _ [.int 1])
      refine lv_iload X.1.1 X.1.2.1 dL_law_663 (lv_at hl6 1 rfl) ?_
      refine lv_icmp_eq (tgt := 670) X.1.1 X.1.2.1 dL_law_665 (by decide) (fun _ => ?_) (fun q9 => absurd rfl q9)
      refine lv_iload X.1.1 X.1.2.1 dL_law_670 (lv_at hl6 1 rfl) ?_
      refine lv_if_ne (tgt := 687) X.1.1 X.1.2.1 dL_law_672 (by decide) (fun _ => ?_) (fun q9 => absurd q9 (by decide))
      refine lv_goto (tgt := 1056) X.1.1 X.1.2.1 dL_law_687 (by decide) ?_
      exact hk B1 N1 wc wm1 ex0 f0 _ _ _ _ _ P2 hKR1 (lv_sub hl6 [2, 3, 4, 5, 6] rfl) (by show _ ≤ cells + 26; omega) (by show _ ≤ slots + 7884; omega)
    · refine lv_aload_n X.1.1 X.1.2.1 dL_law_634 rfl (lv_at hl 1 rfl) ?_
      refine law_arg (k := 1) (n0 := 0) (n4 := 4) X hXs hbl hbA P0.2.2.2.2.1 hl rfl rfl (by omega) hL (by decide) (by decide) dL_law_635 dL_law_636 dL_law_638 dL_law_639 dL_law_640 ?_
      refine lv_aload_n X.1.1 X.1.2.1 dL_law_641 rfl (lv_at hl 3 rfl) ?_
      refine law_h (n := 3) (idx := 114) (rest := []) X P0 dL_law_642 (hL_run_t31 e1) tw1522 tw152 tw1521 tw1520 ⟨⟨by decide, by decide⟩, by decide +kernel⟩ ⟨Nat.le_of_ble_eq_true rfl, Nat.le_of_ble_eq_true rfl⟩ rfl hl.1 rfl (Nat.le_of_ble_eq_true rfl) (by show _ + 1 ≤ 600128; omega) (by show _ + 6 ≤ 7301098; omega) (fun H0 locs0 ex0 f0 hf0 P0 => ?_)
      show W p l e room_1 s m args below meth c _ _ _ _ Q (F0 m 645 _ [.int 2])
      refine lv_istore (nL := 7) (lv' := [(5, .int 2), (0, .ref b), (1, .ref (Gc.2.2 0)), (2, .ref (Gm.2.2 0)), (3, .ref o), (4, .int (nI i))]) X.1.1 X.1.2.1 dL_law_645 hl (by decide) rfl (fun ls5 hl5 => ?_)
      refine lv_aload_n X.1.1 X.1.2.1 dL_law_647 rfl (lv_at hl5 3 rfl) ?_
      refine law_arg (k := 1) (n0 := 1) (n4 := 5) X hXs hbl hbA P0.2.2.2.2.1 hl5 rfl rfl (by omega) hL (by decide) (by decide) dL_law_648 dL_law_649 dL_law_651 dL_law_652 dL_law_653 ?_
      refine law_m (jc := jI) (v := v) (w1 := wm1) (M2 := mX12_run) (n := 1) (idx := 117) (b2 := (0, 0)) (argv := [.int (xs (i + 1))]) (rest := []) X P0 dL_law_654 (by rw [← e2]; exact kX12_run (xs (i + 1)) _) mkX12_run tw2268 rfl ⟨Nat.le_of_ble_eq_true rfl, Nat.le_of_ble_eq_true rfl, rfl, rfl⟩ rfl hl5.1 rfl (Nat.le_of_ble_eq_true rfl) (by show _ + 0 ≤ 600128; omega) (by show _ + 0 ≤ 7301098; omega) (fun H1 locs1 P1 => ?_)
      show W p l e room_1 s m args below meth c _ _ _ _ Q (F0 m 657 _ [.int v])
      refine lv_istore (nL := 7) (lv' := [(6, .int v), (5, .int 2), (0, .ref b), (1, .ref (Gc.2.2 0)), (2, .ref (Gm.2.2 0)), (3, .ref o), (4, .int (nI i))]) X.1.1 X.1.2.1 dL_law_657 hl5 (by decide) rfl (fun ls6 hl6 => ?_)
      refine lv_aload_n X.1.1 X.1.2.1 dL_law_659 rfl (lv_at hl6 4 rfl) ?_
      refine law_m (jc := jI) (v := 2) (w1 := wm1) (M2 := mX12_thrown) (n := 0) (idx := 62) (b2 := (0, 0)) (argv := []) (rest := []) X P1 dL_law_660 (by have h9 := kX12_thrown wm1; unfold sX12_thrown at h9; rw [ht0] at h9; exact h9) mkX12_thrown tw2047 rfl ⟨Nat.le_of_ble_eq_true rfl, Nat.le_of_ble_eq_true rfl, rfl, rfl⟩ rfl hl6.1 rfl (Nat.le_of_ble_eq_true rfl) (by show _ + 0 ≤ 600128; omega) (by show _ + 0 ≤ 7301098; omega) (fun H2 locs2 P2 => ?_)
      show W p l e room_1 s m args below meth c _ _ _ _ Q (F0 m 663 _ [.int 2])
      refine lv_iload X.1.1 X.1.2.1 dL_law_663 (lv_at hl6 1 rfl) ?_
      refine lv_icmp_eq (tgt := 670) X.1.1 X.1.2.1 dL_law_665 (by decide) (fun _ => ?_) (fun q9 => absurd rfl q9)
      refine lv_iload X.1.1 X.1.2.1 dL_law_670 (lv_at hl6 1 rfl) ?_
      refine lv_if_ne (tgt := 687) X.1.1 X.1.2.1 dL_law_672 (by decide) (fun _ => ?_) (fun q9 => absurd q9 (by decide))
      refine lv_goto (tgt := 1056) X.1.1 X.1.2.1 dL_law_687 (by decide) ?_
      exact hk B1 N1 wc wm1 ex0 f0 _ _ _ _ _ P2 hKR1 (lv_sub hl6 [2, 3, 4, 5, 6] rfl) (by show _ ≤ cells + 26; omega) (by show _ ≤ slots + 7884; omega)
set_option maxHeartbeats 2000000 in
theorem law_14 (X : LX p l s m args c cL_law Gc Gm A) (hXs : va_X b L xs s s.heap) (hbl : b < s.heap.size) (hbA : ¬ A b) (hiL : i + 3 < L) (hL : L ≤ 256) (P0 : lwP Gc Gm o f wc wm ex A s.heap H locs) (hKR : KR B N wc wm) (hl : lv_has ls 7 [(0, .ref b), (1, .ref (Gc.2.2 0)), (2, .ref (Gm.2.2 0)), (3, .ref o), (4, .int (nI i))]) (hcl : cells + 26 ≤ 600128) (hsl : slots + 7884 ≤ 7301098)
    (hk : ∀ (B N : _) (wc wm : xW) (ex : va_W) (f : Nat → Int64) (H : Heap) (locs : List Loc) (ls : Array Slot) (cl sl : Nat), lwP Gc Gm o f wc wm ex A s.heap H locs → KR B N wc wm → lv_has ls 7 [(0, .ref b), (1, .ref (Gc.2.2 0)), (2, .ref (Gm.2.2 0)), (3, .ref o), (4, .int (nI i))] → cl ≤ cells + 26 → sl ≤ slots + 7884 → W p l e room_1 s m args below meth c H locs cl sl Q (F0 m 1056 ls [])) :
    W p l e room_1 s m args below meth c H locs cells slots Q (F0 m 690 ls []) := by
  by_cases hz : xs (i + 2) = 0
  · rcases stop_p hKR (xs (i + 1)) (0 : Int32) (Or.inl rfl) with ⟨v, wc1, wm1, B1, N1, e1, e2, hKR1, ht0⟩ | ⟨pcx, cx, v, wm1, B1, N1, hmem, e1, e2, hKR1, ht0⟩
    · refine lv_aload_n X.1.1 X.1.2.1 dL_law_690 rfl (lv_at hl 1 rfl) ?_
      refine law_arg (k := 1) (n0 := 0) (n4 := 4) X hXs hbl hbA P0.2.2.2.2.1 hl rfl rfl (by omega) hL (by decide) (by decide) dL_law_691 dL_law_692 dL_law_694 dL_law_695 dL_law_696 ?_
      refine law_arg (k := 2) (n0 := 0) (n4 := 4) X hXs hbl hbA P0.2.2.2.2.1 hl rfl rfl (by omega) hL (by decide) (by decide) dL_law_697 dL_law_698 dL_law_700 dL_law_701 dL_law_702 ?_
      refine lv_if_eq (tgt := 710) X.1.1 X.1.2.1 dL_law_703 (by decide) (fun _ => ?_) (fun q9 => absurd hz q9)
      refine lv_iconst (v := 0) X.1.1 X.1.2.1 dL_law_710 (by decide) ?_
      refine lv_aload_n X.1.1 X.1.2.1 dL_law_711 rfl (lv_at hl 3 rfl) ?_
      refine law_h (n := 4) (idx := 118) (rest := []) X P0 dL_law_712 (hL_stop_r e1) tw1845 tw152 tw1844 tw1843 ⟨⟨by decide, by decide⟩, by decide +kernel⟩ ⟨Nat.le_of_ble_eq_true rfl, Nat.le_of_ble_eq_true rfl⟩ rfl hl.1 rfl (Nat.le_of_ble_eq_true rfl) (by show _ + 1 ≤ 600128; omega) (by show _ + 6 ≤ 7301098; omega) (fun H0 locs0 ex0 f0 hf0 P0 => ?_)
      show W p l e room_1 s m args below meth c _ _ _ _ Q (F0 m 715 _ [.int 0])
      refine lv_istore (nL := 7) (lv' := [(5, .int 0), (0, .ref b), (1, .ref (Gc.2.2 0)), (2, .ref (Gm.2.2 0)), (3, .ref o), (4, .int (nI i))]) X.1.1 X.1.2.1 dL_law_715 hl (by decide) rfl (fun ls5 hl5 => ?_)
      refine lv_aload_n X.1.1 X.1.2.1 dL_law_717 rfl (lv_at hl5 3 rfl) ?_
      refine law_arg (k := 1) (n0 := 1) (n4 := 5) X hXs hbl hbA P0.2.2.2.2.1 hl5 rfl rfl (by omega) hL (by decide) (by decide) dL_law_718 dL_law_719 dL_law_721 dL_law_722 dL_law_723 ?_
      refine law_arg (k := 2) (n0 := 1) (n4 := 5) X hXs hbl hbA P0.2.2.2.2.1 hl5 rfl rfl (by omega) hL (by decide) (by decide) dL_law_724 dL_law_725 dL_law_727 dL_law_728 dL_law_729 ?_
      refine lv_if_eq (tgt := 737) X.1.1 X.1.2.1 dL_law_730 (by decide) (fun _ => ?_) (fun q9 => absurd hz q9)
      refine lv_iconst (v := 0) X.1.1 X.1.2.1 dL_law_737 (by decide) ?_
      refine law_m (jc := jI) (v := v) (w1 := wm1) (M2 := mX12_stop) (n := 2) (idx := 121) (b2 := (0, 0)) (argv := [.int (xs (i + 1)), .int (0 : Int32)]) (rest := []) X P0 dL_law_738 (by rw [← e2]; exact kX12_stop (xs (i + 1)) (0 : Int32) _) mkX12_stop tw2401 rfl ⟨Nat.le_of_ble_eq_true rfl, Nat.le_of_ble_eq_true rfl, rfl, rfl⟩ rfl hl5.1 rfl (Nat.le_of_ble_eq_true rfl) (by show _ + 0 ≤ 600128; omega) (by show _ + 0 ≤ 7301098; omega) (fun H1 locs1 P1 => ?_)
      show W p l e room_1 s m args below meth c _ _ _ _ Q (F0 m 741 _ [.int v])
      refine lv_istore (nL := 7) (lv' := [(6, .int v), (5, .int 0), (0, .ref b), (1, .ref (Gc.2.2 0)), (2, .ref (Gm.2.2 0)), (3, .ref o), (4, .int (nI i))]) X.1.1 X.1.2.1 dL_law_741 hl5 (by decide) rfl (fun ls6 hl6 => ?_)
      refine lv_aload_n X.1.1 X.1.2.1 dL_law_743 rfl (lv_at hl6 4 rfl) ?_
      refine law_m (jc := jI) (v := 0) (w1 := wm1) (M2 := mX12_thrown) (n := 0) (idx := 62) (b2 := (0, 0)) (argv := []) (rest := []) X P1 dL_law_744 (by have h9 := kX12_thrown wm1; unfold sX12_thrown at h9; rw [ht0] at h9; exact h9) mkX12_thrown tw2047 rfl ⟨Nat.le_of_ble_eq_true rfl, Nat.le_of_ble_eq_true rfl, rfl, rfl⟩ rfl hl6.1 rfl (Nat.le_of_ble_eq_true rfl) (by show _ + 0 ≤ 600128; omega) (by show _ + 0 ≤ 7301098; omega) (fun H2 locs2 P2 => ?_)
      show W p l e room_1 s m args below meth c _ _ _ _ Q (F0 m 747 _ [.int 0])
      refine lv_iload X.1.1 X.1.2.1 dL_law_747 (lv_at hl6 1 rfl) ?_
      refine lv_icmp_eq (tgt := 754) X.1.1 X.1.2.1 dL_law_749 (by decide) (fun _ => ?_) (fun q9 => absurd rfl q9)
      refine lv_iload X.1.1 X.1.2.1 dL_law_754 (lv_at hl6 1 rfl) ?_
      refine lv_if_ne (tgt := 778) X.1.1 X.1.2.1 dL_law_756 (by decide) (fun q9 => absurd rfl q9) (fun _ => ?_)
      refine lv_aload_n X.1.1 X.1.2.1 dL_law_759 rfl (lv_at hl6 5 rfl) ?_
      refine lv_iconst (v := 0) X.1.1 X.1.2.1 dL_law_760 (by decide) ?_
      refine law_out X P2 dL_law_761 ?_
      refine lv_iload X.1.1 X.1.2.1 dL_law_762 (lv_at hl6 0 rfl) ?_
      refine lv_if_eq (tgt := 771) X.1.1 X.1.2.1 dL_law_764 (by decide) (fun q8 => ?_) (fun q8 => ?_)
      · refine lv_lconst (v := 0) X.1.1 X.1.2.1 dL_law_771 (by decide) ?_
        refine law_lcmp X.1.1 X.1.2.1 dL_law_772 ?_
        refine lv_if_eq (tgt := 778) X.1.1 X.1.2.1 dL_law_773 (by decide) (fun _ => ?_) (fun q9 => absurd ((lgc _ _).1.mpr (hf0.trans (if_pos q8))) q9)
        refine lv_goto (tgt := 1056) X.1.1 X.1.2.1 dL_law_778 (by decide) ?_
        exact hk B1 N1 wc1 wm1 ex0 f0 _ _ _ _ _ P2 hKR1 (lv_sub hl6 [2, 3, 4, 5, 6] rfl) (by show _ ≤ cells + 26; omega) (by show _ ≤ slots + 7884; omega)
      · refine lv_lconst (v := 1) X.1.1 X.1.2.1 dL_law_767 (by decide) ?_
        refine lv_goto (tgt := 772) X.1.1 X.1.2.1 dL_law_768 (by decide) ?_
        refine law_lcmp X.1.1 X.1.2.1 dL_law_772 ?_
        refine lv_if_eq (tgt := 778) X.1.1 X.1.2.1 dL_law_773 (by decide) (fun _ => ?_) (fun q9 => absurd ((lgc _ _).1.mpr (hf0.trans (if_neg q8))) q9)
        refine lv_goto (tgt := 1056) X.1.1 X.1.2.1 dL_law_778 (by decide) ?_
        exact hk B1 N1 wc1 wm1 ex0 f0 _ _ _ _ _ P2 hKR1 (lv_sub hl6 [2, 3, 4, 5, 6] rfl) (by show _ ≤ cells + 26; omega) (by show _ ≤ slots + 7884; omega)
    · simp only [List.mem_cons, Prod.mk.injEq, List.not_mem_nil, or_false] at hmem
      rcases hmem with ⟨rfl, rfl⟩
      refine lv_aload_n X.1.1 X.1.2.1 dL_law_690 rfl (lv_at hl 1 rfl) ?_
      refine law_arg (k := 1) (n0 := 0) (n4 := 4) X hXs hbl hbA P0.2.2.2.2.1 hl rfl rfl (by omega) hL (by decide) (by decide) dL_law_691 dL_law_692 dL_law_694 dL_law_695 dL_law_696 ?_
      refine law_arg (k := 2) (n0 := 0) (n4 := 4) X hXs hbl hbA P0.2.2.2.2.1 hl rfl rfl (by omega) hL (by decide) (by decide) dL_law_697 dL_law_698 dL_law_700 dL_law_701 dL_law_702 ?_
      refine lv_if_eq (tgt := 710) X.1.1 X.1.2.1 dL_law_703 (by decide) (fun _ => ?_) (fun q9 => absurd hz q9)
      refine lv_iconst (v := 0) X.1.1 X.1.2.1 dL_law_710 (by decide) ?_
      refine lv_aload_n X.1.1 X.1.2.1 dL_law_711 rfl (lv_at hl 3 rfl) ?_
      refine law_h (n := 4) (idx := 118) (rest := []) X P0 dL_law_712 (hL_stop_t11 e1) tw1845 tw152 tw1844 tw1843 ⟨⟨by decide, by decide⟩, by decide +kernel⟩ ⟨Nat.le_of_ble_eq_true rfl, Nat.le_of_ble_eq_true rfl⟩ rfl hl.1 rfl (Nat.le_of_ble_eq_true rfl) (by show _ + 1 ≤ 600128; omega) (by show _ + 6 ≤ 7301098; omega) (fun H0 locs0 ex0 f0 hf0 P0 => ?_)
      show W p l e room_1 s m args below meth c _ _ _ _ Q (F0 m 715 _ [.int 1])
      refine lv_istore (nL := 7) (lv' := [(5, .int 1), (0, .ref b), (1, .ref (Gc.2.2 0)), (2, .ref (Gm.2.2 0)), (3, .ref o), (4, .int (nI i))]) X.1.1 X.1.2.1 dL_law_715 hl (by decide) rfl (fun ls5 hl5 => ?_)
      refine lv_aload_n X.1.1 X.1.2.1 dL_law_717 rfl (lv_at hl5 3 rfl) ?_
      refine law_arg (k := 1) (n0 := 1) (n4 := 5) X hXs hbl hbA P0.2.2.2.2.1 hl5 rfl rfl (by omega) hL (by decide) (by decide) dL_law_718 dL_law_719 dL_law_721 dL_law_722 dL_law_723 ?_
      refine law_arg (k := 2) (n0 := 1) (n4 := 5) X hXs hbl hbA P0.2.2.2.2.1 hl5 rfl rfl (by omega) hL (by decide) (by decide) dL_law_724 dL_law_725 dL_law_727 dL_law_728 dL_law_729 ?_
      refine lv_if_eq (tgt := 737) X.1.1 X.1.2.1 dL_law_730 (by decide) (fun _ => ?_) (fun q9 => absurd hz q9)
      refine lv_iconst (v := 0) X.1.1 X.1.2.1 dL_law_737 (by decide) ?_
      refine law_m (jc := jI) (v := v) (w1 := wm1) (M2 := mX12_stop) (n := 2) (idx := 121) (b2 := (0, 0)) (argv := [.int (xs (i + 1)), .int (0 : Int32)]) (rest := []) X P0 dL_law_738 (by rw [← e2]; exact kX12_stop (xs (i + 1)) (0 : Int32) _) mkX12_stop tw2401 rfl ⟨Nat.le_of_ble_eq_true rfl, Nat.le_of_ble_eq_true rfl, rfl, rfl⟩ rfl hl5.1 rfl (Nat.le_of_ble_eq_true rfl) (by show _ + 0 ≤ 600128; omega) (by show _ + 0 ≤ 7301098; omega) (fun H1 locs1 P1 => ?_)
      show W p l e room_1 s m args below meth c _ _ _ _ Q (F0 m 741 _ [.int v])
      refine lv_istore (nL := 7) (lv' := [(6, .int v), (5, .int 1), (0, .ref b), (1, .ref (Gc.2.2 0)), (2, .ref (Gm.2.2 0)), (3, .ref o), (4, .int (nI i))]) X.1.1 X.1.2.1 dL_law_741 hl5 (by decide) rfl (fun ls6 hl6 => ?_)
      refine lv_aload_n X.1.1 X.1.2.1 dL_law_743 rfl (lv_at hl6 4 rfl) ?_
      refine law_m (jc := jI) (v := 1) (w1 := wm1) (M2 := mX12_thrown) (n := 0) (idx := 62) (b2 := (0, 0)) (argv := []) (rest := []) X P1 dL_law_744 (by have h9 := kX12_thrown wm1; unfold sX12_thrown at h9; rw [ht0] at h9; exact h9) mkX12_thrown tw2047 rfl ⟨Nat.le_of_ble_eq_true rfl, Nat.le_of_ble_eq_true rfl, rfl, rfl⟩ rfl hl6.1 rfl (Nat.le_of_ble_eq_true rfl) (by show _ + 0 ≤ 600128; omega) (by show _ + 0 ≤ 7301098; omega) (fun H2 locs2 P2 => ?_)
      show W p l e room_1 s m args below meth c _ _ _ _ Q (F0 m 747 _ [.int 1])
      refine lv_iload X.1.1 X.1.2.1 dL_law_747 (lv_at hl6 1 rfl) ?_
      refine lv_icmp_eq (tgt := 754) X.1.1 X.1.2.1 dL_law_749 (by decide) (fun _ => ?_) (fun q9 => absurd rfl q9)
      refine lv_iload X.1.1 X.1.2.1 dL_law_754 (lv_at hl6 1 rfl) ?_
      refine lv_if_ne (tgt := 778) X.1.1 X.1.2.1 dL_law_756 (by decide) (fun _ => ?_) (fun q9 => absurd q9 (by decide))
      refine lv_goto (tgt := 1056) X.1.1 X.1.2.1 dL_law_778 (by decide) ?_
      exact hk B1 N1 wc wm1 ex0 f0 _ _ _ _ _ P2 hKR1 (lv_sub hl6 [2, 3, 4, 5, 6] rfl) (by show _ ≤ cells + 26; omega) (by show _ ≤ slots + 7884; omega)
  · rcases stop_p hKR (xs (i + 1)) (1 : Int32) (Or.inr rfl) with ⟨v, wc1, wm1, B1, N1, e1, e2, hKR1, ht0⟩ | ⟨pcx, cx, v, wm1, B1, N1, hmem, e1, e2, hKR1, ht0⟩
    · refine lv_aload_n X.1.1 X.1.2.1 dL_law_690 rfl (lv_at hl 1 rfl) ?_
      refine law_arg (k := 1) (n0 := 0) (n4 := 4) X hXs hbl hbA P0.2.2.2.2.1 hl rfl rfl (by omega) hL (by decide) (by decide) dL_law_691 dL_law_692 dL_law_694 dL_law_695 dL_law_696 ?_
      refine law_arg (k := 2) (n0 := 0) (n4 := 4) X hXs hbl hbA P0.2.2.2.2.1 hl rfl rfl (by omega) hL (by decide) (by decide) dL_law_697 dL_law_698 dL_law_700 dL_law_701 dL_law_702 ?_
      refine lv_if_eq (tgt := 710) X.1.1 X.1.2.1 dL_law_703 (by decide) (fun q9 => absurd q9 hz) (fun _ => ?_)
      refine lv_iconst (v := 1) X.1.1 X.1.2.1 dL_law_706 (by decide) ?_
      refine lv_goto (tgt := 711) X.1.1 X.1.2.1 dL_law_707 (by decide) ?_
      refine lv_aload_n X.1.1 X.1.2.1 dL_law_711 rfl (lv_at hl 3 rfl) ?_
      refine law_h (n := 4) (idx := 118) (rest := []) X P0 dL_law_712 (hL_stop_r e1) tw1845 tw152 tw1844 tw1843 ⟨⟨by decide, by decide⟩, by decide +kernel⟩ ⟨Nat.le_of_ble_eq_true rfl, Nat.le_of_ble_eq_true rfl⟩ rfl hl.1 rfl (Nat.le_of_ble_eq_true rfl) (by show _ + 1 ≤ 600128; omega) (by show _ + 6 ≤ 7301098; omega) (fun H0 locs0 ex0 f0 hf0 P0 => ?_)
      show W p l e room_1 s m args below meth c _ _ _ _ Q (F0 m 715 _ [.int 0])
      refine lv_istore (nL := 7) (lv' := [(5, .int 0), (0, .ref b), (1, .ref (Gc.2.2 0)), (2, .ref (Gm.2.2 0)), (3, .ref o), (4, .int (nI i))]) X.1.1 X.1.2.1 dL_law_715 hl (by decide) rfl (fun ls5 hl5 => ?_)
      refine lv_aload_n X.1.1 X.1.2.1 dL_law_717 rfl (lv_at hl5 3 rfl) ?_
      refine law_arg (k := 1) (n0 := 1) (n4 := 5) X hXs hbl hbA P0.2.2.2.2.1 hl5 rfl rfl (by omega) hL (by decide) (by decide) dL_law_718 dL_law_719 dL_law_721 dL_law_722 dL_law_723 ?_
      refine law_arg (k := 2) (n0 := 1) (n4 := 5) X hXs hbl hbA P0.2.2.2.2.1 hl5 rfl rfl (by omega) hL (by decide) (by decide) dL_law_724 dL_law_725 dL_law_727 dL_law_728 dL_law_729 ?_
      refine lv_if_eq (tgt := 737) X.1.1 X.1.2.1 dL_law_730 (by decide) (fun q9 => absurd q9 hz) (fun _ => ?_)
      refine lv_iconst (v := 1) X.1.1 X.1.2.1 dL_law_733 (by decide) ?_
      refine lv_goto (tgt := 738) X.1.1 X.1.2.1 dL_law_734 (by decide) ?_
      refine law_m (jc := jI) (v := v) (w1 := wm1) (M2 := mX12_stop) (n := 2) (idx := 121) (b2 := (0, 0)) (argv := [.int (xs (i + 1)), .int (1 : Int32)]) (rest := []) X P0 dL_law_738 (by rw [← e2]; exact kX12_stop (xs (i + 1)) (1 : Int32) _) mkX12_stop tw2401 rfl ⟨Nat.le_of_ble_eq_true rfl, Nat.le_of_ble_eq_true rfl, rfl, rfl⟩ rfl hl5.1 rfl (Nat.le_of_ble_eq_true rfl) (by show _ + 0 ≤ 600128; omega) (by show _ + 0 ≤ 7301098; omega) (fun H1 locs1 P1 => ?_)
      show W p l e room_1 s m args below meth c _ _ _ _ Q (F0 m 741 _ [.int v])
      refine lv_istore (nL := 7) (lv' := [(6, .int v), (5, .int 0), (0, .ref b), (1, .ref (Gc.2.2 0)), (2, .ref (Gm.2.2 0)), (3, .ref o), (4, .int (nI i))]) X.1.1 X.1.2.1 dL_law_741 hl5 (by decide) rfl (fun ls6 hl6 => ?_)
      refine lv_aload_n X.1.1 X.1.2.1 dL_law_743 rfl (lv_at hl6 4 rfl) ?_
      refine law_m (jc := jI) (v := 0) (w1 := wm1) (M2 := mX12_thrown) (n := 0) (idx := 62) (b2 := (0, 0)) (argv := []) (rest := []) X P1 dL_law_744 (by have h9 := kX12_thrown wm1; unfold sX12_thrown at h9; rw [ht0] at h9; exact h9) mkX12_thrown tw2047 rfl ⟨Nat.le_of_ble_eq_true rfl, Nat.le_of_ble_eq_true rfl, rfl, rfl⟩ rfl hl6.1 rfl (Nat.le_of_ble_eq_true rfl) (by show _ + 0 ≤ 600128; omega) (by show _ + 0 ≤ 7301098; omega) (fun H2 locs2 P2 => ?_)
      show W p l e room_1 s m args below meth c _ _ _ _ Q (F0 m 747 _ [.int 0])
      refine lv_iload X.1.1 X.1.2.1 dL_law_747 (lv_at hl6 1 rfl) ?_
      refine lv_icmp_eq (tgt := 754) X.1.1 X.1.2.1 dL_law_749 (by decide) (fun _ => ?_) (fun q9 => absurd rfl q9)
      refine lv_iload X.1.1 X.1.2.1 dL_law_754 (lv_at hl6 1 rfl) ?_
      refine lv_if_ne (tgt := 778) X.1.1 X.1.2.1 dL_law_756 (by decide) (fun q9 => absurd rfl q9) (fun _ => ?_)
      refine lv_aload_n X.1.1 X.1.2.1 dL_law_759 rfl (lv_at hl6 5 rfl) ?_
      refine lv_iconst (v := 0) X.1.1 X.1.2.1 dL_law_760 (by decide) ?_
      refine law_out X P2 dL_law_761 ?_
      refine lv_iload X.1.1 X.1.2.1 dL_law_762 (lv_at hl6 0 rfl) ?_
      refine lv_if_eq (tgt := 771) X.1.1 X.1.2.1 dL_law_764 (by decide) (fun q8 => ?_) (fun q8 => ?_)
      · refine lv_lconst (v := 0) X.1.1 X.1.2.1 dL_law_771 (by decide) ?_
        refine law_lcmp X.1.1 X.1.2.1 dL_law_772 ?_
        refine lv_if_eq (tgt := 778) X.1.1 X.1.2.1 dL_law_773 (by decide) (fun _ => ?_) (fun q9 => absurd ((lgc _ _).1.mpr (hf0.trans (if_pos q8))) q9)
        refine lv_goto (tgt := 1056) X.1.1 X.1.2.1 dL_law_778 (by decide) ?_
        exact hk B1 N1 wc1 wm1 ex0 f0 _ _ _ _ _ P2 hKR1 (lv_sub hl6 [2, 3, 4, 5, 6] rfl) (by show _ ≤ cells + 26; omega) (by show _ ≤ slots + 7884; omega)
      · refine lv_lconst (v := 1) X.1.1 X.1.2.1 dL_law_767 (by decide) ?_
        refine lv_goto (tgt := 772) X.1.1 X.1.2.1 dL_law_768 (by decide) ?_
        refine law_lcmp X.1.1 X.1.2.1 dL_law_772 ?_
        refine lv_if_eq (tgt := 778) X.1.1 X.1.2.1 dL_law_773 (by decide) (fun _ => ?_) (fun q9 => absurd ((lgc _ _).1.mpr (hf0.trans (if_neg q8))) q9)
        refine lv_goto (tgt := 1056) X.1.1 X.1.2.1 dL_law_778 (by decide) ?_
        exact hk B1 N1 wc1 wm1 ex0 f0 _ _ _ _ _ P2 hKR1 (lv_sub hl6 [2, 3, 4, 5, 6] rfl) (by show _ ≤ cells + 26; omega) (by show _ ≤ slots + 7884; omega)
    · simp only [List.mem_cons, Prod.mk.injEq, List.not_mem_nil, or_false] at hmem
      rcases hmem with ⟨rfl, rfl⟩
      refine lv_aload_n X.1.1 X.1.2.1 dL_law_690 rfl (lv_at hl 1 rfl) ?_
      refine law_arg (k := 1) (n0 := 0) (n4 := 4) X hXs hbl hbA P0.2.2.2.2.1 hl rfl rfl (by omega) hL (by decide) (by decide) dL_law_691 dL_law_692 dL_law_694 dL_law_695 dL_law_696 ?_
      refine law_arg (k := 2) (n0 := 0) (n4 := 4) X hXs hbl hbA P0.2.2.2.2.1 hl rfl rfl (by omega) hL (by decide) (by decide) dL_law_697 dL_law_698 dL_law_700 dL_law_701 dL_law_702 ?_
      refine lv_if_eq (tgt := 710) X.1.1 X.1.2.1 dL_law_703 (by decide) (fun q9 => absurd q9 hz) (fun _ => ?_)
      refine lv_iconst (v := 1) X.1.1 X.1.2.1 dL_law_706 (by decide) ?_
      refine lv_goto (tgt := 711) X.1.1 X.1.2.1 dL_law_707 (by decide) ?_
      refine lv_aload_n X.1.1 X.1.2.1 dL_law_711 rfl (lv_at hl 3 rfl) ?_
      refine law_h (n := 4) (idx := 118) (rest := []) X P0 dL_law_712 (hL_stop_t11 e1) tw1845 tw152 tw1844 tw1843 ⟨⟨by decide, by decide⟩, by decide +kernel⟩ ⟨Nat.le_of_ble_eq_true rfl, Nat.le_of_ble_eq_true rfl⟩ rfl hl.1 rfl (Nat.le_of_ble_eq_true rfl) (by show _ + 1 ≤ 600128; omega) (by show _ + 6 ≤ 7301098; omega) (fun H0 locs0 ex0 f0 hf0 P0 => ?_)
      show W p l e room_1 s m args below meth c _ _ _ _ Q (F0 m 715 _ [.int 1])
      refine lv_istore (nL := 7) (lv' := [(5, .int 1), (0, .ref b), (1, .ref (Gc.2.2 0)), (2, .ref (Gm.2.2 0)), (3, .ref o), (4, .int (nI i))]) X.1.1 X.1.2.1 dL_law_715 hl (by decide) rfl (fun ls5 hl5 => ?_)
      refine lv_aload_n X.1.1 X.1.2.1 dL_law_717 rfl (lv_at hl5 3 rfl) ?_
      refine law_arg (k := 1) (n0 := 1) (n4 := 5) X hXs hbl hbA P0.2.2.2.2.1 hl5 rfl rfl (by omega) hL (by decide) (by decide) dL_law_718 dL_law_719 dL_law_721 dL_law_722 dL_law_723 ?_
      refine law_arg (k := 2) (n0 := 1) (n4 := 5) X hXs hbl hbA P0.2.2.2.2.1 hl5 rfl rfl (by omega) hL (by decide) (by decide) dL_law_724 dL_law_725 dL_law_727 dL_law_728 dL_law_729 ?_
      refine lv_if_eq (tgt := 737) X.1.1 X.1.2.1 dL_law_730 (by decide) (fun q9 => absurd q9 hz) (fun _ => ?_)
      refine lv_iconst (v := 1) X.1.1 X.1.2.1 dL_law_733 (by decide) ?_
      refine lv_goto (tgt := 738) X.1.1 X.1.2.1 dL_law_734 (by decide) ?_
      refine law_m (jc := jI) (v := v) (w1 := wm1) (M2 := mX12_stop) (n := 2) (idx := 121) (b2 := (0, 0)) (argv := [.int (xs (i + 1)), .int (1 : Int32)]) (rest := []) X P0 dL_law_738 (by rw [← e2]; exact kX12_stop (xs (i + 1)) (1 : Int32) _) mkX12_stop tw2401 rfl ⟨Nat.le_of_ble_eq_true rfl, Nat.le_of_ble_eq_true rfl, rfl, rfl⟩ rfl hl5.1 rfl (Nat.le_of_ble_eq_true rfl) (by show _ + 0 ≤ 600128; omega) (by show _ + 0 ≤ 7301098; omega) (fun H1 locs1 P1 => ?_)
      show W p l e room_1 s m args below meth c _ _ _ _ Q (F0 m 741 _ [.int v])
      refine lv_istore (nL := 7) (lv' := [(6, .int v), (5, .int 1), (0, .ref b), (1, .ref (Gc.2.2 0)), (2, .ref (Gm.2.2 0)), (3, .ref o), (4, .int (nI i))]) X.1.1 X.1.2.1 dL_law_741 hl5 (by decide) rfl (fun ls6 hl6 => ?_)
      refine lv_aload_n X.1.1 X.1.2.1 dL_law_743 rfl (lv_at hl6 4 rfl) ?_
      refine law_m (jc := jI) (v := 1) (w1 := wm1) (M2 := mX12_thrown) (n := 0) (idx := 62) (b2 := (0, 0)) (argv := []) (rest := []) X P1 dL_law_744 (by have h9 := kX12_thrown wm1; unfold sX12_thrown at h9; rw [ht0] at h9; exact h9) mkX12_thrown tw2047 rfl ⟨Nat.le_of_ble_eq_true rfl, Nat.le_of_ble_eq_true rfl, rfl, rfl⟩ rfl hl6.1 rfl (Nat.le_of_ble_eq_true rfl) (by show _ + 0 ≤ 600128; omega) (by show _ + 0 ≤ 7301098; omega) (fun H2 locs2 P2 => ?_)
      show W p l e room_1 s m args below meth c _ _ _ _ Q (F0 m 747 _ [.int 1])
      refine lv_iload X.1.1 X.1.2.1 dL_law_747 (lv_at hl6 1 rfl) ?_
      refine lv_icmp_eq (tgt := 754) X.1.1 X.1.2.1 dL_law_749 (by decide) (fun _ => ?_) (fun q9 => absurd rfl q9)
      refine lv_iload X.1.1 X.1.2.1 dL_law_754 (lv_at hl6 1 rfl) ?_
      refine lv_if_ne (tgt := 778) X.1.1 X.1.2.1 dL_law_756 (by decide) (fun _ => ?_) (fun q9 => absurd q9 (by decide))
      refine lv_goto (tgt := 1056) X.1.1 X.1.2.1 dL_law_778 (by decide) ?_
      exact hk B1 N1 wc wm1 ex0 f0 _ _ _ _ _ P2 hKR1 (lv_sub hl6 [2, 3, 4, 5, 6] rfl) (by show _ ≤ cells + 26; omega) (by show _ ≤ slots + 7884; omega)
set_option maxHeartbeats 2000000 in
theorem law_15 (X : LX p l s m args c cL_law Gc Gm A) (hXs : va_X b L xs s s.heap) (hbl : b < s.heap.size) (hbA : ¬ A b) (hiL : i + 3 < L) (hL : L ≤ 256) (P0 : lwP Gc Gm o f wc wm ex A s.heap H locs) (hKR : KR B N wc wm) (hl : lv_has ls 7 [(0, .ref b), (1, .ref (Gc.2.2 0)), (2, .ref (Gm.2.2 0)), (3, .ref o), (4, .int (nI i))]) (hcl : cells + 26 ≤ 600128) (hsl : slots + 7884 ≤ 7301098)
    (hk : ∀ (B N : _) (wc wm : xW) (ex : va_W) (f : Nat → Int64) (H : Heap) (locs : List Loc) (ls : Array Slot) (cl sl : Nat), lwP Gc Gm o f wc wm ex A s.heap H locs → KR B N wc wm → lv_has ls 7 [(0, .ref b), (1, .ref (Gc.2.2 0)), (2, .ref (Gm.2.2 0)), (3, .ref o), (4, .int (nI i))] → cl ≤ cells + 26 → sl ≤ slots + 7884 → W p l e room_1 s m args below meth c H locs cl sl Q (F0 m 1056 ls [])) :
    W p l e room_1 s m args below meth c H locs cells slots Q (F0 m 781 ls []) := by
  rcases told_p hKR (xs (i + 1)) with ⟨v, wc1, wm1, B1, N1, e1, e2, hKR1, ht0⟩ | ⟨pcx, cx, v, wm1, B1, N1, hmem, e1, e2, hKR1, ht0⟩
  · refine lv_aload_n X.1.1 X.1.2.1 dL_law_781 rfl (lv_at hl 1 rfl) ?_
    refine law_arg (k := 1) (n0 := 0) (n4 := 4) X hXs hbl hbA P0.2.2.2.2.1 hl rfl rfl (by omega) hL (by decide) (by decide) dL_law_782 dL_law_783 dL_law_785 dL_law_786 dL_law_787 ?_
    refine lv_aload_n X.1.1 X.1.2.1 dL_law_788 rfl (lv_at hl 3 rfl) ?_
    refine law_h (n := 3) (idx := 122) (rest := []) X P0 dL_law_789 (hL_told_r e1) tw1853 tw152 tw1852 tw1851 ⟨⟨by decide, by decide⟩, by decide +kernel⟩ ⟨Nat.le_of_ble_eq_true rfl, Nat.le_of_ble_eq_true rfl⟩ rfl hl.1 rfl (Nat.le_of_ble_eq_true rfl) (by show _ + 1 ≤ 600128; omega) (by show _ + 6 ≤ 7301098; omega) (fun H0 locs0 ex0 f0 hf0 P0 => ?_)
    show W p l e room_1 s m args below meth c _ _ _ _ Q (F0 m 792 _ [.int 0])
    refine lv_istore (nL := 7) (lv' := [(5, .int 0), (0, .ref b), (1, .ref (Gc.2.2 0)), (2, .ref (Gm.2.2 0)), (3, .ref o), (4, .int (nI i))]) X.1.1 X.1.2.1 dL_law_792 hl (by decide) rfl (fun ls5 hl5 => ?_)
    refine lv_aload_n X.1.1 X.1.2.1 dL_law_794 rfl (lv_at hl5 3 rfl) ?_
    refine law_arg (k := 1) (n0 := 1) (n4 := 5) X hXs hbl hbA P0.2.2.2.2.1 hl5 rfl rfl (by omega) hL (by decide) (by decide) dL_law_795 dL_law_796 dL_law_798 dL_law_799 dL_law_800 ?_
    refine law_m (jc := jI) (v := v) (w1 := wm1) (M2 := mX12_told) (n := 1) (idx := 124) (b2 := (0, 0)) (argv := [.int (xs (i + 1))]) (rest := []) X P0 dL_law_801 (by rw [← e2]; exact kX12_told (xs (i + 1)) _) mkX12_told tw2405 rfl ⟨Nat.le_of_ble_eq_true rfl, Nat.le_of_ble_eq_true rfl, rfl, rfl⟩ rfl hl5.1 rfl (Nat.le_of_ble_eq_true rfl) (by show _ + 0 ≤ 600128; omega) (by show _ + 0 ≤ 7301098; omega) (fun H1 locs1 P1 => ?_)
    show W p l e room_1 s m args below meth c _ _ _ _ Q (F0 m 804 _ [.int v])
    refine lv_istore (nL := 7) (lv' := [(6, .int v), (5, .int 0), (0, .ref b), (1, .ref (Gc.2.2 0)), (2, .ref (Gm.2.2 0)), (3, .ref o), (4, .int (nI i))]) X.1.1 X.1.2.1 dL_law_804 hl5 (by decide) rfl (fun ls6 hl6 => ?_)
    refine lv_aload_n X.1.1 X.1.2.1 dL_law_806 rfl (lv_at hl6 4 rfl) ?_
    refine law_m (jc := jI) (v := 0) (w1 := wm1) (M2 := mX12_thrown) (n := 0) (idx := 62) (b2 := (0, 0)) (argv := []) (rest := []) X P1 dL_law_807 (by have h9 := kX12_thrown wm1; unfold sX12_thrown at h9; rw [ht0] at h9; exact h9) mkX12_thrown tw2047 rfl ⟨Nat.le_of_ble_eq_true rfl, Nat.le_of_ble_eq_true rfl, rfl, rfl⟩ rfl hl6.1 rfl (Nat.le_of_ble_eq_true rfl) (by show _ + 0 ≤ 600128; omega) (by show _ + 0 ≤ 7301098; omega) (fun H2 locs2 P2 => ?_)
    show W p l e room_1 s m args below meth c _ _ _ _ Q (F0 m 810 _ [.int 0])
    refine lv_iload X.1.1 X.1.2.1 dL_law_810 (lv_at hl6 1 rfl) ?_
    refine lv_icmp_eq (tgt := 817) X.1.1 X.1.2.1 dL_law_812 (by decide) (fun _ => ?_) (fun q9 => absurd rfl q9)
    refine lv_iload X.1.1 X.1.2.1 dL_law_817 (lv_at hl6 1 rfl) ?_
    refine lv_if_ne (tgt := 834) X.1.1 X.1.2.1 dL_law_819 (by decide) (fun q9 => absurd rfl q9) (fun _ => ?_)
    refine lv_aload_n X.1.1 X.1.2.1 dL_law_822 rfl (lv_at hl6 5 rfl) ?_
    refine lv_iconst (v := 0) X.1.1 X.1.2.1 dL_law_823 (by decide) ?_
    refine law_out X P2 dL_law_824 ?_
    refine lv_iload X.1.1 X.1.2.1 dL_law_825 (lv_at hl6 0 rfl) ?_
    refine lv_i2l X.1.1 X.1.2.1 dL_law_827 rfl ?_
    refine law_lcmp X.1.1 X.1.2.1 dL_law_828 ?_
    refine lv_if_eq (tgt := 834) X.1.1 X.1.2.1 dL_law_829 (by decide) (fun _ => ?_) (fun q9 => absurd ((lgc _ _).1.mpr hf0) q9)
    refine lv_goto (tgt := 1056) X.1.1 X.1.2.1 dL_law_834 (by decide) ?_
    exact hk B1 N1 wc1 wm1 ex0 f0 _ _ _ _ _ P2 hKR1 (lv_sub hl6 [2, 3, 4, 5, 6] rfl) (by show _ ≤ cells + 26; omega) (by show _ ≤ slots + 7884; omega)
  · simp only [List.mem_cons, Prod.mk.injEq, List.not_mem_nil, or_false] at hmem
    rcases hmem with ⟨rfl, rfl⟩
    refine lv_aload_n X.1.1 X.1.2.1 dL_law_781 rfl (lv_at hl 1 rfl) ?_
    refine law_arg (k := 1) (n0 := 0) (n4 := 4) X hXs hbl hbA P0.2.2.2.2.1 hl rfl rfl (by omega) hL (by decide) (by decide) dL_law_782 dL_law_783 dL_law_785 dL_law_786 dL_law_787 ?_
    refine lv_aload_n X.1.1 X.1.2.1 dL_law_788 rfl (lv_at hl 3 rfl) ?_
    refine law_h (n := 3) (idx := 122) (rest := []) X P0 dL_law_789 (hL_told_t115 e1) tw1853 tw152 tw1852 tw1851 ⟨⟨by decide, by decide⟩, by decide +kernel⟩ ⟨Nat.le_of_ble_eq_true rfl, Nat.le_of_ble_eq_true rfl⟩ rfl hl.1 rfl (Nat.le_of_ble_eq_true rfl) (by show _ + 1 ≤ 600128; omega) (by show _ + 6 ≤ 7301098; omega) (fun H0 locs0 ex0 f0 hf0 P0 => ?_)
    show W p l e room_1 s m args below meth c _ _ _ _ Q (F0 m 792 _ [.int 1])
    refine lv_istore (nL := 7) (lv' := [(5, .int 1), (0, .ref b), (1, .ref (Gc.2.2 0)), (2, .ref (Gm.2.2 0)), (3, .ref o), (4, .int (nI i))]) X.1.1 X.1.2.1 dL_law_792 hl (by decide) rfl (fun ls5 hl5 => ?_)
    refine lv_aload_n X.1.1 X.1.2.1 dL_law_794 rfl (lv_at hl5 3 rfl) ?_
    refine law_arg (k := 1) (n0 := 1) (n4 := 5) X hXs hbl hbA P0.2.2.2.2.1 hl5 rfl rfl (by omega) hL (by decide) (by decide) dL_law_795 dL_law_796 dL_law_798 dL_law_799 dL_law_800 ?_
    refine law_m (jc := jI) (v := v) (w1 := wm1) (M2 := mX12_told) (n := 1) (idx := 124) (b2 := (0, 0)) (argv := [.int (xs (i + 1))]) (rest := []) X P0 dL_law_801 (by rw [← e2]; exact kX12_told (xs (i + 1)) _) mkX12_told tw2405 rfl ⟨Nat.le_of_ble_eq_true rfl, Nat.le_of_ble_eq_true rfl, rfl, rfl⟩ rfl hl5.1 rfl (Nat.le_of_ble_eq_true rfl) (by show _ + 0 ≤ 600128; omega) (by show _ + 0 ≤ 7301098; omega) (fun H1 locs1 P1 => ?_)
    show W p l e room_1 s m args below meth c _ _ _ _ Q (F0 m 804 _ [.int v])
    refine lv_istore (nL := 7) (lv' := [(6, .int v), (5, .int 1), (0, .ref b), (1, .ref (Gc.2.2 0)), (2, .ref (Gm.2.2 0)), (3, .ref o), (4, .int (nI i))]) X.1.1 X.1.2.1 dL_law_804 hl5 (by decide) rfl (fun ls6 hl6 => ?_)
    refine lv_aload_n X.1.1 X.1.2.1 dL_law_806 rfl (lv_at hl6 4 rfl) ?_
    refine law_m (jc := jI) (v := 1) (w1 := wm1) (M2 := mX12_thrown) (n := 0) (idx := 62) (b2 := (0, 0)) (argv := []) (rest := []) X P1 dL_law_807 (by have h9 := kX12_thrown wm1; unfold sX12_thrown at h9; rw [ht0] at h9; exact h9) mkX12_thrown tw2047 rfl ⟨Nat.le_of_ble_eq_true rfl, Nat.le_of_ble_eq_true rfl, rfl, rfl⟩ rfl hl6.1 rfl (Nat.le_of_ble_eq_true rfl) (by show _ + 0 ≤ 600128; omega) (by show _ + 0 ≤ 7301098; omega) (fun H2 locs2 P2 => ?_)
    show W p l e room_1 s m args below meth c _ _ _ _ Q (F0 m 810 _ [.int 1])
    refine lv_iload X.1.1 X.1.2.1 dL_law_810 (lv_at hl6 1 rfl) ?_
    refine lv_icmp_eq (tgt := 817) X.1.1 X.1.2.1 dL_law_812 (by decide) (fun _ => ?_) (fun q9 => absurd rfl q9)
    refine lv_iload X.1.1 X.1.2.1 dL_law_817 (lv_at hl6 1 rfl) ?_
    refine lv_if_ne (tgt := 834) X.1.1 X.1.2.1 dL_law_819 (by decide) (fun _ => ?_) (fun q9 => absurd q9 (by decide))
    refine lv_goto (tgt := 1056) X.1.1 X.1.2.1 dL_law_834 (by decide) ?_
    exact hk B1 N1 wc wm1 ex0 f0 _ _ _ _ _ P2 hKR1 (lv_sub hl6 [2, 3, 4, 5, 6] rfl) (by show _ ≤ cells + 26; omega) (by show _ ≤ slots + 7884; omega)
set_option maxHeartbeats 2000000 in
theorem law_16 (X : LX p l s m args c cL_law Gc Gm A) (hXs : va_X b L xs s s.heap) (hbl : b < s.heap.size) (hbA : ¬ A b) (hiL : i + 3 < L) (hL : L ≤ 256) (P0 : lwP Gc Gm o f wc wm ex A s.heap H locs) (hKR : KR B N wc wm) (hl : lv_has ls 7 [(0, .ref b), (1, .ref (Gc.2.2 0)), (2, .ref (Gm.2.2 0)), (3, .ref o), (4, .int (nI i))]) (hcl : cells + 26 ≤ 600128) (hsl : slots + 7884 ≤ 7301098)
    (hk : ∀ (B N : _) (wc wm : xW) (ex : va_W) (f : Nat → Int64) (H : Heap) (locs : List Loc) (ls : Array Slot) (cl sl : Nat), lwP Gc Gm o f wc wm ex A s.heap H locs → KR B N wc wm → lv_has ls 7 [(0, .ref b), (1, .ref (Gc.2.2 0)), (2, .ref (Gm.2.2 0)), (3, .ref o), (4, .int (nI i))] → cl ≤ cells + 26 → sl ≤ slots + 7884 → W p l e room_1 s m args below meth c H locs cl sl Q (F0 m 1056 ls [])) :
    W p l e room_1 s m args below meth c H locs cells slots Q (F0 m 837 ls []) := by
  obtain ⟨v, wc1, wm1, B1, N1, e1, e2, hKR1⟩ := steps_p hKR 
  refine lv_aload_n X.1.1 X.1.2.1 dL_law_837 rfl (lv_at hl 1 rfl) ?_
  refine law_c (jc := jL) (v := v) (w1 := wc1) (M2 := mX11_steps) (n := 0) (idx := 125) (b2 := (0, 0)) (argv := []) (rest := []) X P0 dL_law_838 (by rw [← e1]; exact kX11_steps  _) mkX11_steps tw1439 rfl ⟨Nat.le_of_ble_eq_true rfl, Nat.le_of_ble_eq_true rfl, rfl, rfl⟩ rfl hl.1 rfl (Nat.le_of_ble_eq_true rfl) (by show _ + 0 ≤ 600128; omega) (by show _ + 0 ≤ 7301098; omega) (fun H0 locs0 ex0 P0 => ?_)
  show W p l e room_1 s m args below meth c _ _ _ _ Q (F0 m 841 _ [.long v])
  refine lv_aload_n X.1.1 X.1.2.1 dL_law_841 rfl (lv_at hl 2 rfl) ?_
  refine law_m (jc := jL) (v := v) (w1 := wm1) (M2 := mX12_steps) (n := 0) (idx := 129) (b2 := (0, 0)) (argv := []) (rest := [.long v]) X P0 dL_law_842 (by rw [← e2]; exact kX12_steps  _) mkX12_steps tw2409 rfl ⟨Nat.le_of_ble_eq_true rfl, Nat.le_of_ble_eq_true rfl, rfl, rfl⟩ rfl hl.1 rfl (Nat.le_of_ble_eq_true rfl) (by show _ + 0 ≤ 600128; omega) (by show _ + 0 ≤ 7301098; omega) (fun H1 locs1 P1 => ?_)
  show W p l e room_1 s m args below meth c _ _ _ _ Q (F0 m 845 _ [.long v, .long v])
  refine law_lcmp X.1.1 X.1.2.1 dL_law_845 ?_
  refine lv_if_eq (tgt := 1056) X.1.1 X.1.2.1 dL_law_846 (by decide) (fun _ => ?_) (fun q9 => absurd ((lgc v v).1.mpr rfl) q9)
  exact hk B1 N1 wc1 wm1 ex0 f _ _ _ _ _ P1 hKR1 hl (by show _ ≤ cells + 26; omega) (by show _ ≤ slots + 7884; omega)
set_option maxHeartbeats 2000000 in
theorem law_17 (X : LX p l s m args c cL_law Gc Gm A) (hXs : va_X b L xs s s.heap) (hbl : b < s.heap.size) (hbA : ¬ A b) (hiL : i + 3 < L) (hL : L ≤ 256) (P0 : lwP Gc Gm o f wc wm ex A s.heap H locs) (hKR : KR B N wc wm) (hl : lv_has ls 7 [(0, .ref b), (1, .ref (Gc.2.2 0)), (2, .ref (Gm.2.2 0)), (3, .ref o), (4, .int (nI i))]) (hcl : cells + 26 ≤ 600128) (hsl : slots + 7884 ≤ 7301098)
    (hk : ∀ (B N : _) (wc wm : xW) (ex : va_W) (f : Nat → Int64) (H : Heap) (locs : List Loc) (ls : Array Slot) (cl sl : Nat), lwP Gc Gm o f wc wm ex A s.heap H locs → KR B N wc wm → lv_has ls 7 [(0, .ref b), (1, .ref (Gc.2.2 0)), (2, .ref (Gm.2.2 0)), (3, .ref o), (4, .int (nI i))] → cl ≤ cells + 26 → sl ≤ slots + 7884 → W p l e room_1 s m args below meth c H locs cl sl Q (F0 m 1056 ls [])) :
    W p l e room_1 s m args below meth c H locs cells slots Q (F0 m 851 ls []) := by
  rcases register_p hKR (xs (i + 1)) with ⟨v, wc1, wm1, B1, N1, e1, e2, hKR1, ht0⟩ | ⟨pcx, cx, v, wm1, B1, N1, hmem, e1, e2, hKR1, ht0⟩
  · refine lv_aload_n X.1.1 X.1.2.1 dL_law_851 rfl (lv_at hl 1 rfl) ?_
    refine law_arg (k := 1) (n0 := 0) (n4 := 4) X hXs hbl hbA P0.2.2.2.2.1 hl rfl rfl (by omega) hL (by decide) (by decide) dL_law_852 dL_law_853 dL_law_855 dL_law_856 dL_law_857 ?_
    refine lv_aload_n X.1.1 X.1.2.1 dL_law_858 rfl (lv_at hl 3 rfl) ?_
    refine law_h (n := 3) (idx := 130) (rest := []) X P0 dL_law_859 (hL_register_r e1) tw1861 tw152 tw1860 tw1859 ⟨⟨by decide, by decide⟩, by decide +kernel⟩ ⟨Nat.le_of_ble_eq_true rfl, Nat.le_of_ble_eq_true rfl⟩ rfl hl.1 rfl (Nat.le_of_ble_eq_true rfl) (by show _ + 1 ≤ 600128; omega) (by show _ + 6 ≤ 7301098; omega) (fun H0 locs0 ex0 f0 hf0 P0 => ?_)
    show W p l e room_1 s m args below meth c _ _ _ _ Q (F0 m 862 _ [.int 0])
    refine lv_istore (nL := 7) (lv' := [(5, .int 0), (0, .ref b), (1, .ref (Gc.2.2 0)), (2, .ref (Gm.2.2 0)), (3, .ref o), (4, .int (nI i))]) X.1.1 X.1.2.1 dL_law_862 hl (by decide) rfl (fun ls5 hl5 => ?_)
    refine lv_aload_n X.1.1 X.1.2.1 dL_law_864 rfl (lv_at hl5 3 rfl) ?_
    refine law_arg (k := 1) (n0 := 1) (n4 := 5) X hXs hbl hbA P0.2.2.2.2.1 hl5 rfl rfl (by omega) hL (by decide) (by decide) dL_law_865 dL_law_866 dL_law_868 dL_law_869 dL_law_870 ?_
    refine law_m (jc := jI) (v := v) (w1 := wm1) (M2 := mX12_register) (n := 1) (idx := 132) (b2 := (0, 0)) (argv := [.int (xs (i + 1))]) (rest := []) X P0 dL_law_871 (by rw [← e2]; exact kX12_register (xs (i + 1)) _) mkX12_register tw2413 rfl ⟨Nat.le_of_ble_eq_true rfl, Nat.le_of_ble_eq_true rfl, rfl, rfl⟩ rfl hl5.1 rfl (Nat.le_of_ble_eq_true rfl) (by show _ + 0 ≤ 600128; omega) (by show _ + 0 ≤ 7301098; omega) (fun H1 locs1 P1 => ?_)
    show W p l e room_1 s m args below meth c _ _ _ _ Q (F0 m 874 _ [.int v])
    refine lv_istore (nL := 7) (lv' := [(6, .int v), (5, .int 0), (0, .ref b), (1, .ref (Gc.2.2 0)), (2, .ref (Gm.2.2 0)), (3, .ref o), (4, .int (nI i))]) X.1.1 X.1.2.1 dL_law_874 hl5 (by decide) rfl (fun ls6 hl6 => ?_)
    refine lv_aload_n X.1.1 X.1.2.1 dL_law_876 rfl (lv_at hl6 4 rfl) ?_
    refine law_m (jc := jI) (v := 0) (w1 := wm1) (M2 := mX12_thrown) (n := 0) (idx := 62) (b2 := (0, 0)) (argv := []) (rest := []) X P1 dL_law_877 (by have h9 := kX12_thrown wm1; unfold sX12_thrown at h9; rw [ht0] at h9; exact h9) mkX12_thrown tw2047 rfl ⟨Nat.le_of_ble_eq_true rfl, Nat.le_of_ble_eq_true rfl, rfl, rfl⟩ rfl hl6.1 rfl (Nat.le_of_ble_eq_true rfl) (by show _ + 0 ≤ 600128; omega) (by show _ + 0 ≤ 7301098; omega) (fun H2 locs2 P2 => ?_)
    show W p l e room_1 s m args below meth c _ _ _ _ Q (F0 m 880 _ [.int 0])
    refine lv_iload X.1.1 X.1.2.1 dL_law_880 (lv_at hl6 1 rfl) ?_
    refine lv_icmp_eq (tgt := 887) X.1.1 X.1.2.1 dL_law_882 (by decide) (fun _ => ?_) (fun q9 => absurd rfl q9)
    refine lv_iload X.1.1 X.1.2.1 dL_law_887 (lv_at hl6 1 rfl) ?_
    refine lv_if_ne (tgt := 904) X.1.1 X.1.2.1 dL_law_889 (by decide) (fun q9 => absurd rfl q9) (fun _ => ?_)
    refine lv_aload_n X.1.1 X.1.2.1 dL_law_892 rfl (lv_at hl6 5 rfl) ?_
    refine lv_iconst (v := 0) X.1.1 X.1.2.1 dL_law_893 (by decide) ?_
    refine law_out X P2 dL_law_894 ?_
    refine lv_iload X.1.1 X.1.2.1 dL_law_895 (lv_at hl6 0 rfl) ?_
    refine lv_i2l X.1.1 X.1.2.1 dL_law_897 rfl ?_
    refine law_lcmp X.1.1 X.1.2.1 dL_law_898 ?_
    refine lv_if_eq (tgt := 904) X.1.1 X.1.2.1 dL_law_899 (by decide) (fun _ => ?_) (fun q9 => absurd ((lgc _ _).1.mpr hf0) q9)
    refine lv_goto (tgt := 1056) X.1.1 X.1.2.1 dL_law_904 (by decide) ?_
    exact hk B1 N1 wc1 wm1 ex0 f0 _ _ _ _ _ P2 hKR1 (lv_sub hl6 [2, 3, 4, 5, 6] rfl) (by show _ ≤ cells + 26; omega) (by show _ ≤ slots + 7884; omega)
  · simp only [List.mem_cons, Prod.mk.injEq, List.not_mem_nil, or_false] at hmem
    rcases hmem with ⟨rfl, rfl⟩
    refine lv_aload_n X.1.1 X.1.2.1 dL_law_851 rfl (lv_at hl 1 rfl) ?_
    refine law_arg (k := 1) (n0 := 0) (n4 := 4) X hXs hbl hbA P0.2.2.2.2.1 hl rfl rfl (by omega) hL (by decide) (by decide) dL_law_852 dL_law_853 dL_law_855 dL_law_856 dL_law_857 ?_
    refine lv_aload_n X.1.1 X.1.2.1 dL_law_858 rfl (lv_at hl 3 rfl) ?_
    refine law_h (n := 3) (idx := 130) (rest := []) X P0 dL_law_859 (hL_register_t10 e1) tw1861 tw152 tw1860 tw1859 ⟨⟨by decide, by decide⟩, by decide +kernel⟩ ⟨Nat.le_of_ble_eq_true rfl, Nat.le_of_ble_eq_true rfl⟩ rfl hl.1 rfl (Nat.le_of_ble_eq_true rfl) (by show _ + 1 ≤ 600128; omega) (by show _ + 6 ≤ 7301098; omega) (fun H0 locs0 ex0 f0 hf0 P0 => ?_)
    show W p l e room_1 s m args below meth c _ _ _ _ Q (F0 m 862 _ [.int 1])
    refine lv_istore (nL := 7) (lv' := [(5, .int 1), (0, .ref b), (1, .ref (Gc.2.2 0)), (2, .ref (Gm.2.2 0)), (3, .ref o), (4, .int (nI i))]) X.1.1 X.1.2.1 dL_law_862 hl (by decide) rfl (fun ls5 hl5 => ?_)
    refine lv_aload_n X.1.1 X.1.2.1 dL_law_864 rfl (lv_at hl5 3 rfl) ?_
    refine law_arg (k := 1) (n0 := 1) (n4 := 5) X hXs hbl hbA P0.2.2.2.2.1 hl5 rfl rfl (by omega) hL (by decide) (by decide) dL_law_865 dL_law_866 dL_law_868 dL_law_869 dL_law_870 ?_
    refine law_m (jc := jI) (v := v) (w1 := wm1) (M2 := mX12_register) (n := 1) (idx := 132) (b2 := (0, 0)) (argv := [.int (xs (i + 1))]) (rest := []) X P0 dL_law_871 (by rw [← e2]; exact kX12_register (xs (i + 1)) _) mkX12_register tw2413 rfl ⟨Nat.le_of_ble_eq_true rfl, Nat.le_of_ble_eq_true rfl, rfl, rfl⟩ rfl hl5.1 rfl (Nat.le_of_ble_eq_true rfl) (by show _ + 0 ≤ 600128; omega) (by show _ + 0 ≤ 7301098; omega) (fun H1 locs1 P1 => ?_)
    show W p l e room_1 s m args below meth c _ _ _ _ Q (F0 m 874 _ [.int v])
    refine lv_istore (nL := 7) (lv' := [(6, .int v), (5, .int 1), (0, .ref b), (1, .ref (Gc.2.2 0)), (2, .ref (Gm.2.2 0)), (3, .ref o), (4, .int (nI i))]) X.1.1 X.1.2.1 dL_law_874 hl5 (by decide) rfl (fun ls6 hl6 => ?_)
    refine lv_aload_n X.1.1 X.1.2.1 dL_law_876 rfl (lv_at hl6 4 rfl) ?_
    refine law_m (jc := jI) (v := 1) (w1 := wm1) (M2 := mX12_thrown) (n := 0) (idx := 62) (b2 := (0, 0)) (argv := []) (rest := []) X P1 dL_law_877 (by have h9 := kX12_thrown wm1; unfold sX12_thrown at h9; rw [ht0] at h9; exact h9) mkX12_thrown tw2047 rfl ⟨Nat.le_of_ble_eq_true rfl, Nat.le_of_ble_eq_true rfl, rfl, rfl⟩ rfl hl6.1 rfl (Nat.le_of_ble_eq_true rfl) (by show _ + 0 ≤ 600128; omega) (by show _ + 0 ≤ 7301098; omega) (fun H2 locs2 P2 => ?_)
    show W p l e room_1 s m args below meth c _ _ _ _ Q (F0 m 880 _ [.int 1])
    refine lv_iload X.1.1 X.1.2.1 dL_law_880 (lv_at hl6 1 rfl) ?_
    refine lv_icmp_eq (tgt := 887) X.1.1 X.1.2.1 dL_law_882 (by decide) (fun _ => ?_) (fun q9 => absurd rfl q9)
    refine lv_iload X.1.1 X.1.2.1 dL_law_887 (lv_at hl6 1 rfl) ?_
    refine lv_if_ne (tgt := 904) X.1.1 X.1.2.1 dL_law_889 (by decide) (fun _ => ?_) (fun q9 => absurd q9 (by decide))
    refine lv_goto (tgt := 1056) X.1.1 X.1.2.1 dL_law_904 (by decide) ?_
    exact hk B1 N1 wc wm1 ex0 f0 _ _ _ _ _ P2 hKR1 (lv_sub hl6 [2, 3, 4, 5, 6] rfl) (by show _ ≤ cells + 26; omega) (by show _ ≤ slots + 7884; omega)
set_option maxHeartbeats 2000000 in
theorem law_18 (X : LX p l s m args c cL_law Gc Gm A) (hXs : va_X b L xs s s.heap) (hbl : b < s.heap.size) (hbA : ¬ A b) (hiL : i + 3 < L) (hL : L ≤ 256) (P0 : lwP Gc Gm o f wc wm ex A s.heap H locs) (hKR : KR B N wc wm) (hl : lv_has ls 7 [(0, .ref b), (1, .ref (Gc.2.2 0)), (2, .ref (Gm.2.2 0)), (3, .ref o), (4, .int (nI i))]) (hcl : cells + 26 ≤ 600128) (hsl : slots + 7884 ≤ 7301098)
    (hk : ∀ (B N : _) (wc wm : xW) (ex : va_W) (f : Nat → Int64) (H : Heap) (locs : List Loc) (ls : Array Slot) (cl sl : Nat), lwP Gc Gm o f wc wm ex A s.heap H locs → KR B N wc wm → lv_has ls 7 [(0, .ref b), (1, .ref (Gc.2.2 0)), (2, .ref (Gm.2.2 0)), (3, .ref o), (4, .int (nI i))] → cl ≤ cells + 26 → sl ≤ slots + 7884 → W p l e room_1 s m args below meth c H locs cl sl Q (F0 m 1056 ls [])) :
    W p l e room_1 s m args below meth c H locs cells slots Q (F0 m 907 ls []) := by
  rcases put_p hKR (xs (i + 1)) (xs (i + 2)) with ⟨v, wc1, wm1, B1, N1, e1, e2, hKR1, ht0⟩ | ⟨pcx, cx, v, wm1, B1, N1, hmem, e1, e2, hKR1, ht0⟩
  · refine lv_aload_n X.1.1 X.1.2.1 dL_law_907 rfl (lv_at hl 1 rfl) ?_
    refine law_arg (k := 1) (n0 := 0) (n4 := 4) X hXs hbl hbA P0.2.2.2.2.1 hl rfl rfl (by omega) hL (by decide) (by decide) dL_law_908 dL_law_909 dL_law_911 dL_law_912 dL_law_913 ?_
    refine law_arg (k := 2) (n0 := 0) (n4 := 4) X hXs hbl hbA P0.2.2.2.2.1 hl rfl rfl (by omega) hL (by decide) (by decide) dL_law_914 dL_law_915 dL_law_917 dL_law_918 dL_law_919 ?_
    refine lv_aload_n X.1.1 X.1.2.1 dL_law_920 rfl (lv_at hl 3 rfl) ?_
    refine law_h (n := 4) (idx := 133) (rest := []) X P0 dL_law_921 (hL_put_r e1) tw1882 tw152 tw1881 tw1880 ⟨⟨by decide, by decide⟩, by decide +kernel⟩ ⟨Nat.le_of_ble_eq_true rfl, Nat.le_of_ble_eq_true rfl⟩ rfl hl.1 rfl (Nat.le_of_ble_eq_true rfl) (by show _ + 1 ≤ 600128; omega) (by show _ + 6 ≤ 7301098; omega) (fun H0 locs0 ex0 f0 hf0 P0 => ?_)
    show W p l e room_1 s m args below meth c _ _ _ _ Q (F0 m 924 _ [.int 0])
    refine lv_istore (nL := 7) (lv' := [(5, .int 0), (0, .ref b), (1, .ref (Gc.2.2 0)), (2, .ref (Gm.2.2 0)), (3, .ref o), (4, .int (nI i))]) X.1.1 X.1.2.1 dL_law_924 hl (by decide) rfl (fun ls5 hl5 => ?_)
    refine lv_aload_n X.1.1 X.1.2.1 dL_law_926 rfl (lv_at hl5 3 rfl) ?_
    refine law_arg (k := 1) (n0 := 1) (n4 := 5) X hXs hbl hbA P0.2.2.2.2.1 hl5 rfl rfl (by omega) hL (by decide) (by decide) dL_law_927 dL_law_928 dL_law_930 dL_law_931 dL_law_932 ?_
    refine law_arg (k := 2) (n0 := 1) (n4 := 5) X hXs hbl hbA P0.2.2.2.2.1 hl5 rfl rfl (by omega) hL (by decide) (by decide) dL_law_933 dL_law_934 dL_law_936 dL_law_937 dL_law_938 ?_
    refine law_m (jc := jI) (v := v) (w1 := wm1) (M2 := mX12_put) (n := 2) (idx := 135) (b2 := (0, 0)) (argv := [.int (xs (i + 1)), .int (xs (i + 2))]) (rest := []) X P0 dL_law_939 (by rw [← e2]; exact kX12_put (xs (i + 1)) (xs (i + 2)) _) mkX12_put tw2417 rfl ⟨Nat.le_of_ble_eq_true rfl, Nat.le_of_ble_eq_true rfl, rfl, rfl⟩ rfl hl5.1 rfl (Nat.le_of_ble_eq_true rfl) (by show _ + 0 ≤ 600128; omega) (by show _ + 0 ≤ 7301098; omega) (fun H1 locs1 P1 => ?_)
    show W p l e room_1 s m args below meth c _ _ _ _ Q (F0 m 942 _ [.int v])
    refine lv_istore (nL := 7) (lv' := [(6, .int v), (5, .int 0), (0, .ref b), (1, .ref (Gc.2.2 0)), (2, .ref (Gm.2.2 0)), (3, .ref o), (4, .int (nI i))]) X.1.1 X.1.2.1 dL_law_942 hl5 (by decide) rfl (fun ls6 hl6 => ?_)
    refine lv_aload_n X.1.1 X.1.2.1 dL_law_944 rfl (lv_at hl6 4 rfl) ?_
    refine law_m (jc := jI) (v := 0) (w1 := wm1) (M2 := mX12_thrown) (n := 0) (idx := 62) (b2 := (0, 0)) (argv := []) (rest := []) X P1 dL_law_945 (by have h9 := kX12_thrown wm1; unfold sX12_thrown at h9; rw [ht0] at h9; exact h9) mkX12_thrown tw2047 rfl ⟨Nat.le_of_ble_eq_true rfl, Nat.le_of_ble_eq_true rfl, rfl, rfl⟩ rfl hl6.1 rfl (Nat.le_of_ble_eq_true rfl) (by show _ + 0 ≤ 600128; omega) (by show _ + 0 ≤ 7301098; omega) (fun H2 locs2 P2 => ?_)
    show W p l e room_1 s m args below meth c _ _ _ _ Q (F0 m 948 _ [.int 0])
    refine lv_iload X.1.1 X.1.2.1 dL_law_948 (lv_at hl6 1 rfl) ?_
    refine lv_icmp_eq (tgt := 955) X.1.1 X.1.2.1 dL_law_950 (by decide) (fun _ => ?_) (fun q9 => absurd rfl q9)
    refine lv_iload X.1.1 X.1.2.1 dL_law_955 (lv_at hl6 1 rfl) ?_
    refine lv_if_ne (tgt := 972) X.1.1 X.1.2.1 dL_law_957 (by decide) (fun q9 => absurd rfl q9) (fun _ => ?_)
    refine lv_aload_n X.1.1 X.1.2.1 dL_law_960 rfl (lv_at hl6 5 rfl) ?_
    refine lv_iconst (v := 0) X.1.1 X.1.2.1 dL_law_961 (by decide) ?_
    refine law_out X P2 dL_law_962 ?_
    refine lv_iload X.1.1 X.1.2.1 dL_law_963 (lv_at hl6 0 rfl) ?_
    refine lv_i2l X.1.1 X.1.2.1 dL_law_965 rfl ?_
    refine law_lcmp X.1.1 X.1.2.1 dL_law_966 ?_
    refine lv_if_eq (tgt := 972) X.1.1 X.1.2.1 dL_law_967 (by decide) (fun _ => ?_) (fun q9 => absurd ((lgc _ _).1.mpr hf0) q9)
    refine lv_goto (tgt := 1056) X.1.1 X.1.2.1 dL_law_972 (by decide) ?_
    exact hk B1 N1 wc1 wm1 ex0 f0 _ _ _ _ _ P2 hKR1 (lv_sub hl6 [2, 3, 4, 5, 6] rfl) (by show _ ≤ cells + 26; omega) (by show _ ≤ slots + 7884; omega)
  · simp only [List.mem_cons, Prod.mk.injEq, List.not_mem_nil, or_false] at hmem
    rcases hmem with ⟨rfl, rfl⟩ | ⟨rfl, rfl⟩
    · refine lv_aload_n X.1.1 X.1.2.1 dL_law_907 rfl (lv_at hl 1 rfl) ?_
      refine law_arg (k := 1) (n0 := 0) (n4 := 4) X hXs hbl hbA P0.2.2.2.2.1 hl rfl rfl (by omega) hL (by decide) (by decide) dL_law_908 dL_law_909 dL_law_911 dL_law_912 dL_law_913 ?_
      refine law_arg (k := 2) (n0 := 0) (n4 := 4) X hXs hbl hbA P0.2.2.2.2.1 hl rfl rfl (by omega) hL (by decide) (by decide) dL_law_914 dL_law_915 dL_law_917 dL_law_918 dL_law_919 ?_
      refine lv_aload_n X.1.1 X.1.2.1 dL_law_920 rfl (lv_at hl 3 rfl) ?_
      refine law_h (n := 4) (idx := 133) (rest := []) X P0 dL_law_921 (hL_put_t10 e1) tw1882 tw152 tw1881 tw1880 ⟨⟨by decide, by decide⟩, by decide +kernel⟩ ⟨Nat.le_of_ble_eq_true rfl, Nat.le_of_ble_eq_true rfl⟩ rfl hl.1 rfl (Nat.le_of_ble_eq_true rfl) (by show _ + 1 ≤ 600128; omega) (by show _ + 6 ≤ 7301098; omega) (fun H0 locs0 ex0 f0 hf0 P0 => ?_)
      show W p l e room_1 s m args below meth c _ _ _ _ Q (F0 m 924 _ [.int 1])
      refine lv_istore (nL := 7) (lv' := [(5, .int 1), (0, .ref b), (1, .ref (Gc.2.2 0)), (2, .ref (Gm.2.2 0)), (3, .ref o), (4, .int (nI i))]) X.1.1 X.1.2.1 dL_law_924 hl (by decide) rfl (fun ls5 hl5 => ?_)
      refine lv_aload_n X.1.1 X.1.2.1 dL_law_926 rfl (lv_at hl5 3 rfl) ?_
      refine law_arg (k := 1) (n0 := 1) (n4 := 5) X hXs hbl hbA P0.2.2.2.2.1 hl5 rfl rfl (by omega) hL (by decide) (by decide) dL_law_927 dL_law_928 dL_law_930 dL_law_931 dL_law_932 ?_
      refine law_arg (k := 2) (n0 := 1) (n4 := 5) X hXs hbl hbA P0.2.2.2.2.1 hl5 rfl rfl (by omega) hL (by decide) (by decide) dL_law_933 dL_law_934 dL_law_936 dL_law_937 dL_law_938 ?_
      refine law_m (jc := jI) (v := v) (w1 := wm1) (M2 := mX12_put) (n := 2) (idx := 135) (b2 := (0, 0)) (argv := [.int (xs (i + 1)), .int (xs (i + 2))]) (rest := []) X P0 dL_law_939 (by rw [← e2]; exact kX12_put (xs (i + 1)) (xs (i + 2)) _) mkX12_put tw2417 rfl ⟨Nat.le_of_ble_eq_true rfl, Nat.le_of_ble_eq_true rfl, rfl, rfl⟩ rfl hl5.1 rfl (Nat.le_of_ble_eq_true rfl) (by show _ + 0 ≤ 600128; omega) (by show _ + 0 ≤ 7301098; omega) (fun H1 locs1 P1 => ?_)
      show W p l e room_1 s m args below meth c _ _ _ _ Q (F0 m 942 _ [.int v])
      refine lv_istore (nL := 7) (lv' := [(6, .int v), (5, .int 1), (0, .ref b), (1, .ref (Gc.2.2 0)), (2, .ref (Gm.2.2 0)), (3, .ref o), (4, .int (nI i))]) X.1.1 X.1.2.1 dL_law_942 hl5 (by decide) rfl (fun ls6 hl6 => ?_)
      refine lv_aload_n X.1.1 X.1.2.1 dL_law_944 rfl (lv_at hl6 4 rfl) ?_
      refine law_m (jc := jI) (v := 1) (w1 := wm1) (M2 := mX12_thrown) (n := 0) (idx := 62) (b2 := (0, 0)) (argv := []) (rest := []) X P1 dL_law_945 (by have h9 := kX12_thrown wm1; unfold sX12_thrown at h9; rw [ht0] at h9; exact h9) mkX12_thrown tw2047 rfl ⟨Nat.le_of_ble_eq_true rfl, Nat.le_of_ble_eq_true rfl, rfl, rfl⟩ rfl hl6.1 rfl (Nat.le_of_ble_eq_true rfl) (by show _ + 0 ≤ 600128; omega) (by show _ + 0 ≤ 7301098; omega) (fun H2 locs2 P2 => ?_)
      show W p l e room_1 s m args below meth c _ _ _ _ Q (F0 m 948 _ [.int 1])
      refine lv_iload X.1.1 X.1.2.1 dL_law_948 (lv_at hl6 1 rfl) ?_
      refine lv_icmp_eq (tgt := 955) X.1.1 X.1.2.1 dL_law_950 (by decide) (fun _ => ?_) (fun q9 => absurd rfl q9)
      refine lv_iload X.1.1 X.1.2.1 dL_law_955 (lv_at hl6 1 rfl) ?_
      refine lv_if_ne (tgt := 972) X.1.1 X.1.2.1 dL_law_957 (by decide) (fun _ => ?_) (fun q9 => absurd q9 (by decide))
      refine lv_goto (tgt := 1056) X.1.1 X.1.2.1 dL_law_972 (by decide) ?_
      exact hk B1 N1 wc wm1 ex0 f0 _ _ _ _ _ P2 hKR1 (lv_sub hl6 [2, 3, 4, 5, 6] rfl) (by show _ ≤ cells + 26; omega) (by show _ ≤ slots + 7884; omega)
    · refine lv_aload_n X.1.1 X.1.2.1 dL_law_907 rfl (lv_at hl 1 rfl) ?_
      refine law_arg (k := 1) (n0 := 0) (n4 := 4) X hXs hbl hbA P0.2.2.2.2.1 hl rfl rfl (by omega) hL (by decide) (by decide) dL_law_908 dL_law_909 dL_law_911 dL_law_912 dL_law_913 ?_
      refine law_arg (k := 2) (n0 := 0) (n4 := 4) X hXs hbl hbA P0.2.2.2.2.1 hl rfl rfl (by omega) hL (by decide) (by decide) dL_law_914 dL_law_915 dL_law_917 dL_law_918 dL_law_919 ?_
      refine lv_aload_n X.1.1 X.1.2.1 dL_law_920 rfl (lv_at hl 3 rfl) ?_
      refine law_h (n := 4) (idx := 133) (rest := []) X P0 dL_law_921 (hL_put_t30 e1) tw1882 tw152 tw1881 tw1880 ⟨⟨by decide, by decide⟩, by decide +kernel⟩ ⟨Nat.le_of_ble_eq_true rfl, Nat.le_of_ble_eq_true rfl⟩ rfl hl.1 rfl (Nat.le_of_ble_eq_true rfl) (by show _ + 1 ≤ 600128; omega) (by show _ + 6 ≤ 7301098; omega) (fun H0 locs0 ex0 f0 hf0 P0 => ?_)
      show W p l e room_1 s m args below meth c _ _ _ _ Q (F0 m 924 _ [.int 2])
      refine lv_istore (nL := 7) (lv' := [(5, .int 2), (0, .ref b), (1, .ref (Gc.2.2 0)), (2, .ref (Gm.2.2 0)), (3, .ref o), (4, .int (nI i))]) X.1.1 X.1.2.1 dL_law_924 hl (by decide) rfl (fun ls5 hl5 => ?_)
      refine lv_aload_n X.1.1 X.1.2.1 dL_law_926 rfl (lv_at hl5 3 rfl) ?_
      refine law_arg (k := 1) (n0 := 1) (n4 := 5) X hXs hbl hbA P0.2.2.2.2.1 hl5 rfl rfl (by omega) hL (by decide) (by decide) dL_law_927 dL_law_928 dL_law_930 dL_law_931 dL_law_932 ?_
      refine law_arg (k := 2) (n0 := 1) (n4 := 5) X hXs hbl hbA P0.2.2.2.2.1 hl5 rfl rfl (by omega) hL (by decide) (by decide) dL_law_933 dL_law_934 dL_law_936 dL_law_937 dL_law_938 ?_
      refine law_m (jc := jI) (v := v) (w1 := wm1) (M2 := mX12_put) (n := 2) (idx := 135) (b2 := (0, 0)) (argv := [.int (xs (i + 1)), .int (xs (i + 2))]) (rest := []) X P0 dL_law_939 (by rw [← e2]; exact kX12_put (xs (i + 1)) (xs (i + 2)) _) mkX12_put tw2417 rfl ⟨Nat.le_of_ble_eq_true rfl, Nat.le_of_ble_eq_true rfl, rfl, rfl⟩ rfl hl5.1 rfl (Nat.le_of_ble_eq_true rfl) (by show _ + 0 ≤ 600128; omega) (by show _ + 0 ≤ 7301098; omega) (fun H1 locs1 P1 => ?_)
      show W p l e room_1 s m args below meth c _ _ _ _ Q (F0 m 942 _ [.int v])
      refine lv_istore (nL := 7) (lv' := [(6, .int v), (5, .int 2), (0, .ref b), (1, .ref (Gc.2.2 0)), (2, .ref (Gm.2.2 0)), (3, .ref o), (4, .int (nI i))]) X.1.1 X.1.2.1 dL_law_942 hl5 (by decide) rfl (fun ls6 hl6 => ?_)
      refine lv_aload_n X.1.1 X.1.2.1 dL_law_944 rfl (lv_at hl6 4 rfl) ?_
      refine law_m (jc := jI) (v := 2) (w1 := wm1) (M2 := mX12_thrown) (n := 0) (idx := 62) (b2 := (0, 0)) (argv := []) (rest := []) X P1 dL_law_945 (by have h9 := kX12_thrown wm1; unfold sX12_thrown at h9; rw [ht0] at h9; exact h9) mkX12_thrown tw2047 rfl ⟨Nat.le_of_ble_eq_true rfl, Nat.le_of_ble_eq_true rfl, rfl, rfl⟩ rfl hl6.1 rfl (Nat.le_of_ble_eq_true rfl) (by show _ + 0 ≤ 600128; omega) (by show _ + 0 ≤ 7301098; omega) (fun H2 locs2 P2 => ?_)
      show W p l e room_1 s m args below meth c _ _ _ _ Q (F0 m 948 _ [.int 2])
      refine lv_iload X.1.1 X.1.2.1 dL_law_948 (lv_at hl6 1 rfl) ?_
      refine lv_icmp_eq (tgt := 955) X.1.1 X.1.2.1 dL_law_950 (by decide) (fun _ => ?_) (fun q9 => absurd rfl q9)
      refine lv_iload X.1.1 X.1.2.1 dL_law_955 (lv_at hl6 1 rfl) ?_
      refine lv_if_ne (tgt := 972) X.1.1 X.1.2.1 dL_law_957 (by decide) (fun _ => ?_) (fun q9 => absurd q9 (by decide))
      refine lv_goto (tgt := 1056) X.1.1 X.1.2.1 dL_law_972 (by decide) ?_
      exact hk B1 N1 wc wm1 ex0 f0 _ _ _ _ _ P2 hKR1 (lv_sub hl6 [2, 3, 4, 5, 6] rfl) (by show _ ≤ cells + 26; omega) (by show _ ≤ slots + 7884; omega)
set_option maxHeartbeats 2000000 in
theorem law_19 (X : LX p l s m args c cL_law Gc Gm A) (hXs : va_X b L xs s s.heap) (hbl : b < s.heap.size) (hbA : ¬ A b) (hiL : i + 3 < L) (hL : L ≤ 256) (P0 : lwP Gc Gm o f wc wm ex A s.heap H locs) (hKR : KR B N wc wm) (hl : lv_has ls 7 [(0, .ref b), (1, .ref (Gc.2.2 0)), (2, .ref (Gm.2.2 0)), (3, .ref o), (4, .int (nI i))]) (hcl : cells + 26 ≤ 600128) (hsl : slots + 7884 ≤ 7301098)
    (hk : ∀ (B N : _) (wc wm : xW) (ex : va_W) (f : Nat → Int64) (H : Heap) (locs : List Loc) (ls : Array Slot) (cl sl : Nat), lwP Gc Gm o f wc wm ex A s.heap H locs → KR B N wc wm → lv_has ls 7 [(0, .ref b), (1, .ref (Gc.2.2 0)), (2, .ref (Gm.2.2 0)), (3, .ref o), (4, .int (nI i))] → cl ≤ cells + 26 → sl ≤ slots + 7884 → W p l e room_1 s m args below meth c H locs cl sl Q (F0 m 1056 ls [])) :
    W p l e room_1 s m args below meth c H locs cells slots Q (F0 m 975 ls []) := by
  obtain ⟨v, wc1, wm1, B1, N1, e1, e2, hKR1⟩ := output_p hKR (xs (i + 1))
  refine lv_aload_n X.1.1 X.1.2.1 dL_law_975 rfl (lv_at hl 1 rfl) ?_
  refine law_arg (k := 1) (n0 := 0) (n4 := 4) X hXs hbl hbA P0.2.2.2.2.1 hl rfl rfl (by omega) hL (by decide) (by decide) dL_law_976 dL_law_977 dL_law_979 dL_law_980 dL_law_981 ?_
  refine law_c (jc := jI) (v := v) (w1 := wc1) (M2 := mX11_output) (n := 1) (idx := 136) (b2 := (0, 0)) (argv := [.int (xs (i + 1))]) (rest := []) X P0 dL_law_982 (by rw [← e1]; exact kX11_output (xs (i + 1)) _) mkX11_output tw1443 rfl ⟨Nat.le_of_ble_eq_true rfl, Nat.le_of_ble_eq_true rfl, rfl, rfl⟩ rfl hl.1 rfl (Nat.le_of_ble_eq_true rfl) (by show _ + 0 ≤ 600128; omega) (by show _ + 0 ≤ 7301098; omega) (fun H0 locs0 ex0 P0 => ?_)
  show W p l e room_1 s m args below meth c _ _ _ _ Q (F0 m 985 _ [.int v])
  refine lv_aload_n X.1.1 X.1.2.1 dL_law_985 rfl (lv_at hl 2 rfl) ?_
  refine law_arg (k := 1) (n0 := 0) (n4 := 4) X hXs hbl hbA P0.2.2.2.2.1 hl rfl rfl (by omega) hL (by decide) (by decide) dL_law_986 dL_law_987 dL_law_989 dL_law_990 dL_law_991 ?_
  refine law_m (jc := jI) (v := v) (w1 := wm1) (M2 := mX12_output) (n := 1) (idx := 139) (b2 := (0, 0)) (argv := [.int (xs (i + 1))]) (rest := [.int v]) X P0 dL_law_992 (by rw [← e2]; exact kX12_output (xs (i + 1)) _) mkX12_output tw2421 rfl ⟨Nat.le_of_ble_eq_true rfl, Nat.le_of_ble_eq_true rfl, rfl, rfl⟩ rfl hl.1 rfl (Nat.le_of_ble_eq_true rfl) (by show _ + 0 ≤ 600128; omega) (by show _ + 0 ≤ 7301098; omega) (fun H1 locs1 P1 => ?_)
  show W p l e room_1 s m args below meth c _ _ _ _ Q (F0 m 995 _ [.int v, .int v])
  refine lv_icmp_eq (tgt := 1056) X.1.1 X.1.2.1 dL_law_995 (by decide) (fun _ => ?_) (fun q9 => absurd rfl q9)
  exact hk B1 N1 wc1 wm1 ex0 f _ _ _ _ _ P1 hKR1 hl (by show _ ≤ cells + 26; omega) (by show _ ≤ slots + 7884; omega)
set_option maxHeartbeats 2000000 in
theorem law_20 (X : LX p l s m args c cL_law Gc Gm A) (hXs : va_X b L xs s s.heap) (hbl : b < s.heap.size) (hbA : ¬ A b) (hiL : i + 3 < L) (hL : L ≤ 256) (P0 : lwP Gc Gm o f wc wm ex A s.heap H locs) (hKR : KR B N wc wm) (hl : lv_has ls 7 [(0, .ref b), (1, .ref (Gc.2.2 0)), (2, .ref (Gm.2.2 0)), (3, .ref o), (4, .int (nI i))]) (hcl : cells + 26 ≤ 600128) (hsl : slots + 7884 ≤ 7301098)
    (hk : ∀ (B N : _) (wc wm : xW) (ex : va_W) (f : Nat → Int64) (H : Heap) (locs : List Loc) (ls : Array Slot) (cl sl : Nat), lwP Gc Gm o f wc wm ex A s.heap H locs → KR B N wc wm → lv_has ls 7 [(0, .ref b), (1, .ref (Gc.2.2 0)), (2, .ref (Gm.2.2 0)), (3, .ref o), (4, .int (nI i))] → cl ≤ cells + 26 → sl ≤ slots + 7884 → W p l e room_1 s m args below meth c H locs cl sl Q (F0 m 1056 ls [])) :
    W p l e room_1 s m args below meth c H locs cells slots Q (F0 m 1000 ls []) := by
  rcases passed_p hKR (xs (i + 1)) with ⟨v, wc1, wm1, B1, N1, e1, e2, hKR1, ht0⟩ | ⟨pcx, cx, v, wm1, B1, N1, hmem, e1, e2, hKR1, ht0⟩
  · refine lv_aload_n X.1.1 X.1.2.1 dL_law_1000 rfl (lv_at hl 1 rfl) ?_
    refine law_arg (k := 1) (n0 := 0) (n4 := 4) X hXs hbl hbA P0.2.2.2.2.1 hl rfl rfl (by omega) hL (by decide) (by decide) dL_law_1001 dL_law_1002 dL_law_1004 dL_law_1005 dL_law_1006 ?_
    refine lv_aload_n X.1.1 X.1.2.1 dL_law_1007 rfl (lv_at hl 3 rfl) ?_
    refine law_h (n := 3) (idx := 140) (rest := []) X P0 dL_law_1008 (hL_passed_r e1) tw1889 tw152 tw1888 tw1887 ⟨⟨by decide, by decide⟩, by decide +kernel⟩ ⟨Nat.le_of_ble_eq_true rfl, Nat.le_of_ble_eq_true rfl⟩ rfl hl.1 rfl (Nat.le_of_ble_eq_true rfl) (by show _ + 1 ≤ 600128; omega) (by show _ + 6 ≤ 7301098; omega) (fun H0 locs0 ex0 f0 hf0 P0 => ?_)
    show W p l e room_1 s m args below meth c _ _ _ _ Q (F0 m 1011 _ [.int 0])
    refine lv_istore (nL := 7) (lv' := [(5, .int 0), (0, .ref b), (1, .ref (Gc.2.2 0)), (2, .ref (Gm.2.2 0)), (3, .ref o), (4, .int (nI i))]) X.1.1 X.1.2.1 dL_law_1011 hl (by decide) rfl (fun ls5 hl5 => ?_)
    refine lv_aload_n X.1.1 X.1.2.1 dL_law_1013 rfl (lv_at hl5 3 rfl) ?_
    refine law_arg (k := 1) (n0 := 1) (n4 := 5) X hXs hbl hbA P0.2.2.2.2.1 hl5 rfl rfl (by omega) hL (by decide) (by decide) dL_law_1014 dL_law_1015 dL_law_1017 dL_law_1018 dL_law_1019 ?_
    refine law_m (jc := jI) (v := v) (w1 := wm1) (M2 := mX12_passed) (n := 1) (idx := 142) (b2 := (0, 0)) (argv := [.int (xs (i + 1))]) (rest := []) X P0 dL_law_1020 (by rw [← e2]; exact kX12_passed (xs (i + 1)) _) mkX12_passed tw2425 rfl ⟨Nat.le_of_ble_eq_true rfl, Nat.le_of_ble_eq_true rfl, rfl, rfl⟩ rfl hl5.1 rfl (Nat.le_of_ble_eq_true rfl) (by show _ + 0 ≤ 600128; omega) (by show _ + 0 ≤ 7301098; omega) (fun H1 locs1 P1 => ?_)
    show W p l e room_1 s m args below meth c _ _ _ _ Q (F0 m 1023 _ [.int v])
    refine lv_istore (nL := 7) (lv' := [(6, .int v), (5, .int 0), (0, .ref b), (1, .ref (Gc.2.2 0)), (2, .ref (Gm.2.2 0)), (3, .ref o), (4, .int (nI i))]) X.1.1 X.1.2.1 dL_law_1023 hl5 (by decide) rfl (fun ls6 hl6 => ?_)
    refine lv_aload_n X.1.1 X.1.2.1 dL_law_1025 rfl (lv_at hl6 4 rfl) ?_
    refine law_m (jc := jI) (v := 0) (w1 := wm1) (M2 := mX12_thrown) (n := 0) (idx := 62) (b2 := (0, 0)) (argv := []) (rest := []) X P1 dL_law_1026 (by have h9 := kX12_thrown wm1; unfold sX12_thrown at h9; rw [ht0] at h9; exact h9) mkX12_thrown tw2047 rfl ⟨Nat.le_of_ble_eq_true rfl, Nat.le_of_ble_eq_true rfl, rfl, rfl⟩ rfl hl6.1 rfl (Nat.le_of_ble_eq_true rfl) (by show _ + 0 ≤ 600128; omega) (by show _ + 0 ≤ 7301098; omega) (fun H2 locs2 P2 => ?_)
    show W p l e room_1 s m args below meth c _ _ _ _ Q (F0 m 1029 _ [.int 0])
    refine lv_iload X.1.1 X.1.2.1 dL_law_1029 (lv_at hl6 1 rfl) ?_
    refine lv_icmp_eq (tgt := 1036) X.1.1 X.1.2.1 dL_law_1031 (by decide) (fun _ => ?_) (fun q9 => absurd rfl q9)
    refine lv_iload X.1.1 X.1.2.1 dL_law_1036 (lv_at hl6 1 rfl) ?_
    refine lv_if_ne (tgt := 1053) X.1.1 X.1.2.1 dL_law_1038 (by decide) (fun q9 => absurd rfl q9) (fun _ => ?_)
    refine lv_aload_n X.1.1 X.1.2.1 dL_law_1041 rfl (lv_at hl6 5 rfl) ?_
    refine lv_iconst (v := 0) X.1.1 X.1.2.1 dL_law_1042 (by decide) ?_
    refine law_out X P2 dL_law_1043 ?_
    refine lv_iload X.1.1 X.1.2.1 dL_law_1044 (lv_at hl6 0 rfl) ?_
    refine lv_i2l X.1.1 X.1.2.1 dL_law_1046 rfl ?_
    refine law_lcmp X.1.1 X.1.2.1 dL_law_1047 ?_
    refine lv_if_eq (tgt := 1053) X.1.1 X.1.2.1 dL_law_1048 (by decide) (fun _ => ?_) (fun q9 => absurd ((lgc _ _).1.mpr hf0) q9)
    refine lv_goto (tgt := 1056) X.1.1 X.1.2.1 dL_law_1053 (by decide) ?_
    exact hk B1 N1 wc1 wm1 ex0 f0 _ _ _ _ _ P2 hKR1 (lv_sub hl6 [2, 3, 4, 5, 6] rfl) (by show _ ≤ cells + 26; omega) (by show _ ≤ slots + 7884; omega)
  · simp only [List.mem_cons, Prod.mk.injEq, List.not_mem_nil, or_false] at hmem
    rcases hmem with ⟨rfl, rfl⟩
    refine lv_aload_n X.1.1 X.1.2.1 dL_law_1000 rfl (lv_at hl 1 rfl) ?_
    refine law_arg (k := 1) (n0 := 0) (n4 := 4) X hXs hbl hbA P0.2.2.2.2.1 hl rfl rfl (by omega) hL (by decide) (by decide) dL_law_1001 dL_law_1002 dL_law_1004 dL_law_1005 dL_law_1006 ?_
    refine lv_aload_n X.1.1 X.1.2.1 dL_law_1007 rfl (lv_at hl 3 rfl) ?_
    refine law_h (n := 3) (idx := 140) (rest := []) X P0 dL_law_1008 (hL_passed_t11 e1) tw1889 tw152 tw1888 tw1887 ⟨⟨by decide, by decide⟩, by decide +kernel⟩ ⟨Nat.le_of_ble_eq_true rfl, Nat.le_of_ble_eq_true rfl⟩ rfl hl.1 rfl (Nat.le_of_ble_eq_true rfl) (by show _ + 1 ≤ 600128; omega) (by show _ + 6 ≤ 7301098; omega) (fun H0 locs0 ex0 f0 hf0 P0 => ?_)
    show W p l e room_1 s m args below meth c _ _ _ _ Q (F0 m 1011 _ [.int 1])
    refine lv_istore (nL := 7) (lv' := [(5, .int 1), (0, .ref b), (1, .ref (Gc.2.2 0)), (2, .ref (Gm.2.2 0)), (3, .ref o), (4, .int (nI i))]) X.1.1 X.1.2.1 dL_law_1011 hl (by decide) rfl (fun ls5 hl5 => ?_)
    refine lv_aload_n X.1.1 X.1.2.1 dL_law_1013 rfl (lv_at hl5 3 rfl) ?_
    refine law_arg (k := 1) (n0 := 1) (n4 := 5) X hXs hbl hbA P0.2.2.2.2.1 hl5 rfl rfl (by omega) hL (by decide) (by decide) dL_law_1014 dL_law_1015 dL_law_1017 dL_law_1018 dL_law_1019 ?_
    refine law_m (jc := jI) (v := v) (w1 := wm1) (M2 := mX12_passed) (n := 1) (idx := 142) (b2 := (0, 0)) (argv := [.int (xs (i + 1))]) (rest := []) X P0 dL_law_1020 (by rw [← e2]; exact kX12_passed (xs (i + 1)) _) mkX12_passed tw2425 rfl ⟨Nat.le_of_ble_eq_true rfl, Nat.le_of_ble_eq_true rfl, rfl, rfl⟩ rfl hl5.1 rfl (Nat.le_of_ble_eq_true rfl) (by show _ + 0 ≤ 600128; omega) (by show _ + 0 ≤ 7301098; omega) (fun H1 locs1 P1 => ?_)
    show W p l e room_1 s m args below meth c _ _ _ _ Q (F0 m 1023 _ [.int v])
    refine lv_istore (nL := 7) (lv' := [(6, .int v), (5, .int 1), (0, .ref b), (1, .ref (Gc.2.2 0)), (2, .ref (Gm.2.2 0)), (3, .ref o), (4, .int (nI i))]) X.1.1 X.1.2.1 dL_law_1023 hl5 (by decide) rfl (fun ls6 hl6 => ?_)
    refine lv_aload_n X.1.1 X.1.2.1 dL_law_1025 rfl (lv_at hl6 4 rfl) ?_
    refine law_m (jc := jI) (v := 1) (w1 := wm1) (M2 := mX12_thrown) (n := 0) (idx := 62) (b2 := (0, 0)) (argv := []) (rest := []) X P1 dL_law_1026 (by have h9 := kX12_thrown wm1; unfold sX12_thrown at h9; rw [ht0] at h9; exact h9) mkX12_thrown tw2047 rfl ⟨Nat.le_of_ble_eq_true rfl, Nat.le_of_ble_eq_true rfl, rfl, rfl⟩ rfl hl6.1 rfl (Nat.le_of_ble_eq_true rfl) (by show _ + 0 ≤ 600128; omega) (by show _ + 0 ≤ 7301098; omega) (fun H2 locs2 P2 => ?_)
    show W p l e room_1 s m args below meth c _ _ _ _ Q (F0 m 1029 _ [.int 1])
    refine lv_iload X.1.1 X.1.2.1 dL_law_1029 (lv_at hl6 1 rfl) ?_
    refine lv_icmp_eq (tgt := 1036) X.1.1 X.1.2.1 dL_law_1031 (by decide) (fun _ => ?_) (fun q9 => absurd rfl q9)
    refine lv_iload X.1.1 X.1.2.1 dL_law_1036 (lv_at hl6 1 rfl) ?_
    refine lv_if_ne (tgt := 1053) X.1.1 X.1.2.1 dL_law_1038 (by decide) (fun _ => ?_) (fun q9 => absurd q9 (by decide))
    refine lv_goto (tgt := 1056) X.1.1 X.1.2.1 dL_law_1053 (by decide) ?_
    exact hk B1 N1 wc wm1 ex0 f0 _ _ _ _ _ P2 hKR1 (lv_sub hl6 [2, 3, 4, 5, 6] rfl) (by show _ ≤ cells + 26; omega) (by show _ ≤ slots + 7884; omega)
end LAWC
