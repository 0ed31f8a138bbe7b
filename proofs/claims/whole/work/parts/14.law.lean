def qlw_law (X : Int × (Int → Int)) (n : Nat) (K : zK) (M : zM) (a1 a2 a3 : Int) : Option (Int × zM) :=
  zwh (σ := Int × zM) (fun s1 =>
    if zw (X.1 - 6) < zw s1.1 then
      some (.inr (1, s1.2))
    else
      (zscr X s1.1).bind fun v2 =>
      zesc (β := zM) (if zw (zand v2 63) = 0 then
        (zscr X (s1.1 + 1)).bind fun v4 =>
        (zscr X (s1.1 + 2)).bind fun v5 =>
        (zgk K a1 11 15).bind fun _ => (qbs_table n K s1.2 a1 v4 v5).bind fun p6 =>
        (zscr X (s1.1 + 1)).bind fun v7 =>
        (zscr X (s1.1 + 2)).bind fun v8 =>
        (zgk K a2 12 49).bind fun _ => (qmd_table n K p6.2 a2 v7 v8).bind fun p9 =>
        if zw p6.1 = zw p9.1 then
          some (.inl p9.2)
        else
          some (.inr (.inr (0, p9.2)))
      else if zw (zand v2 63) = 1 then
        (zscr X (s1.1 + 1)).bind fun v10 =>
        (zgk K a1 11 15).bind fun _ => (qbs_banks n K s1.2 a1 v10).bind fun p11 =>
        (zscr X (s1.1 + 1)).bind fun v12 =>
        (zgk K a2 12 49).bind fun _ => (qmd_banks n K p11.2 a2 v12).bind fun p13 =>
        if zw p11.1 = zw p13.1 then
          some (.inl p13.2)
        else
          some (.inr (.inr (0, p13.2)))
      else if zw (zand v2 63) = 2 then
        (zscr X (s1.1 + 1)).bind fun v14 =>
        (zscr X (s1.1 + 2)).bind fun v15 =>
        (zscr X (s1.1 + 3)).bind fun v16 =>
        (zgk K a1 11 15).bind fun _ => (qbs_law K s1.2 a1 v14 v15 v16).bind fun p17 =>
        (zscr X (s1.1 + 1)).bind fun v18 =>
        (zscr X (s1.1 + 2)).bind fun v19 =>
        (zscr X (s1.1 + 3)).bind fun v20 =>
        (zgk K a2 12 49).bind fun _ => (qmd_law K p17.2 a2 v18 v19 v20).bind fun p21 =>
        if zw p17.1 = zw p21.1 then
          some (.inl p21.2)
        else
          some (.inr (.inr (0, p21.2)))
      else if zw (zand v2 63) = 3 then
        (zscr X (s1.1 + 1)).bind fun v22 =>
        (zscr X (s1.1 + 2)).bind fun v23 =>
        (zscr X (s1.1 + 3)).bind fun v24 =>
        (zgk K a1 11 15).bind fun _ => (qbs_lay K s1.2 a1 v22 v23 v24).bind fun p25 =>
        (zscr X (s1.1 + 1)).bind fun v26 =>
        (zscr X (s1.1 + 2)).bind fun v27 =>
        (zscr X (s1.1 + 3)).bind fun v28 =>
        (zgk K a2 12 49).bind fun _ => (qmd_lay K p25.2 a2 v26 v27 v28).bind fun p29 =>
        if zw p25.1 = zw p29.1 then
          some (.inl p29.2)
        else
          some (.inr (.inr (0, p29.2)))
      else if zw (zand v2 63) = 4 then
        (zscr X (s1.1 + 1)).bind fun v30 =>
        (zscr X (s1.1 + 2)).bind fun v31 =>
        (zscr X (s1.1 + 3)).bind fun v32 =>
        (zgk K a1 11 15).bind fun _ => (qbs_cell n K s1.2 a1 v30 v31 v32).bind fun v33 =>
        (zscr X (s1.1 + 1)).bind fun v34 =>
        (zscr X (s1.1 + 2)).bind fun v35 =>
        (zscr X (s1.1 + 3)).bind fun v36 =>
        (zgk K a2 12 49).bind fun _ => (qmd_cell n K s1.2 a2 v34 v35 v36).bind fun p37 =>
        if zw v33 = zw p37.1 then
          some (.inl p37.2)
        else
          some (.inr (.inr (0, p37.2)))
      else if zw (zand v2 63) = 5 then
        (zscr X (s1.1 + 1)).bind fun v38 =>
        (zscr X (s1.1 + 2)).bind fun v39 =>
        (zgk K a1 11 15).bind fun _ => (qbs_bank n K s1.2 a1 v38 v39).bind fun v40 =>
        (zscr X (s1.1 + 1)).bind fun v41 =>
        (zscr X (s1.1 + 2)).bind fun v42 =>
        (zgk K a2 12 49).bind fun _ => (qmd_bank n K s1.2 a2 v41 v42).bind fun p43 =>
        if zw v40 = zw p43.1 then
          some (.inl p43.2)
        else
          some (.inr (.inr (0, p43.2)))
      else if zw (zand v2 63) = 6 then
        (zscr X (s1.1 + 1)).bind fun v44 =>
        (zscr X (s1.1 + 2)).bind fun v45 =>
        (zscr X (s1.1 + 3)).bind fun v46 =>
        (zscr X (s1.1 + 4)).bind fun v47 =>
        (zscr X (s1.1 + 5)).bind fun v48 =>
        (zgk K a1 11 15).bind fun _ => (qbs_cut n K s1.2 a1 v44 v45 v46 v47 v48).bind fun p49 =>
        (zscr X (s1.1 + 1)).bind fun v50 =>
        (zscr X (s1.1 + 2)).bind fun v51 =>
        (zscr X (s1.1 + 3)).bind fun v52 =>
        (zscr X (s1.1 + 4)).bind fun v53 =>
        (zscr X (s1.1 + 5)).bind fun v54 =>
        (zgk K a2 12 49).bind fun _ => (qmd_cut n K p49.2 a2 v50 v51 v52 v53 v54).bind fun p55 =>
        if zw p49.1 = zw p55.1 then
          some (.inl p55.2)
        else
          some (.inr (.inr (0, p55.2)))
      else if zw (zand v2 63) = 7 then
        (zscr X (s1.1 + 1)).bind fun v56 =>
        (zscr X (s1.1 + 2)).bind fun v57 =>
        (zscr X (s1.1 + 3)).bind fun v58 =>
        (zscr X (s1.1 + 4)).bind fun v59 =>
        (zgk K a1 11 15).bind fun _ => (qbs_cuts n K s1.2 a1 v56 v57 v58 v59).bind fun p60 =>
        (zscr X (s1.1 + 1)).bind fun v61 =>
        (zscr X (s1.1 + 2)).bind fun v62 =>
        (zscr X (s1.1 + 3)).bind fun v63 =>
        (zscr X (s1.1 + 4)).bind fun v64 =>
        (zgk K a2 12 49).bind fun _ => (qmd_cuts n K p60.2 a2 v61 v62 v63 v64).bind fun p65 =>
        if zw p60.1 = zw p65.1 then
          some (.inl p65.2)
        else
          some (.inr (.inr (0, p65.2)))
      else if zw (zand v2 63) = 8 then
        (zscr X (s1.1 + 1)).bind fun v66 =>
        (zscr X (s1.1 + 2)).bind fun v67 =>
        (zscr X (s1.1 + 3)).bind fun v68 =>
        (zgk K a1 11 15).bind fun _ => (qbs_wish K s1.2 a1 v66 v67 v68).bind fun p69 =>
        (zscr X (s1.1 + 1)).bind fun v70 =>
        (zscr X (s1.1 + 2)).bind fun v71 =>
        (zscr X (s1.1 + 3)).bind fun v72 =>
        (zgk K a2 12 49).bind fun _ => (qmd_wish K p69.2 a2 v70 v71 v72).bind fun p73 =>
        if zw p69.1 = zw p73.1 then
          some (.inl p73.2)
        else
          some (.inr (.inr (0, p73.2)))
      else if zw (zand v2 63) = 9 then
        (zgk K a1 11 15).bind fun _ => (qbs_forget K s1.2 a1).bind fun p74 =>
        (zgk K a2 12 49).bind fun _ => (qmd_forget K p74.2 a2).bind fun p75 =>
        if zw p74.1 = zw p75.1 then
          some (.inl p75.2)
        else
          some (.inr (.inr (0, p75.2)))
      else if zw (zand v2 63) = 10 then
        (zgk K a1 11 15).bind fun _ => (qbs_granted n K s1.2 a1).bind fun v76 =>
        (zgk K a2 12 49).bind fun _ => (qmd_granted n K s1.2 a2).bind fun p77 =>
        if zw v76 = zw p77.1 then
          some (.inl p77.2)
        else
          some (.inr (.inr (0, p77.2)))
      else if zw (zand v2 63) = 11 then
        (zscr X (s1.1 + 1)).bind fun v78 =>
        (zscr X (s1.1 + 2)).bind fun v79 =>
        (zgk K a1 11 15).bind fun _ => (qbs_fewest n K s1.2 a1 v78 v79).bind fun p80 =>
        (zscr X (s1.1 + 1)).bind fun v81 =>
        (zscr X (s1.1 + 2)).bind fun v82 =>
        (zgk K a2 12 49).bind fun _ => (qmd_fewest n K p80.2 a2 v81 v82).bind fun p83 =>
        if zw p80.1 = zw p83.1 then
          some (.inl p83.2)
        else
          some (.inr (.inr (0, p83.2)))
      else if zw (zand v2 63) = 12 then
        (zgk K a1 11 15).bind fun _ => (qbs_bound n K s1.2 a1).bind fun v84 =>
        (zgk K a2 12 49).bind fun _ => (qmd_bound n K s1.2 a2).bind fun v85 =>
        if zw v84 = zw v85 then
          some (.inl s1.2)
        else
          some (.inr (.inr (0, s1.2)))
      else if zw (zand v2 63) = 13 then
        (zgk K a1 11 15).bind fun _ => (qbs_free n K s1.2 a1).bind fun p86 =>
        (zgk K a2 12 49).bind fun _ => (qmd_free n K p86.2 a2).bind fun p87 =>
        if zw p86.1 = zw p87.1 then
          some (.inl p87.2)
        else
          some (.inr (.inr (0, p87.2)))
      else if zw (zand v2 63) = 14 then
        (zgk K a1 11 15).bind fun _ => (qbs_freeBanks n K s1.2 a1).bind fun p88 =>
        (zgk K a2 12 49).bind fun _ => (qmd_freeBanks n K p88.2 a2).bind fun p89 =>
        if zw p88.1 = zw p89.1 then
          some (.inl p89.2)
        else
          some (.inr (.inr (0, p89.2)))
      else if zw (zand v2 63) = 15 then
        (zscr X (s1.1 + 1)).bind fun v90 =>
        (zgk K a1 11 15).bind fun _ => (qbs_rest K s1.2 a1 v90).bind fun p91 =>
        (zscr X (s1.1 + 1)).bind fun v92 =>
        (zgk K a2 12 49).bind fun _ => (qmd_rest K p91.2 a2 v92).bind fun p93 =>
        if zw p91.1 = zw p93.1 then
          some (.inl p93.2)
        else
          some (.inr (.inr (0, p93.2)))
      else if zw (zand v2 63) = 16 then
        (zscr X (s1.1 + 1)).bind fun v94 =>
        (zscr X (s1.1 + 2)).bind fun v95 =>
        (zscr X (s1.1 + 3)).bind fun v96 =>
        (zgk K a1 11 15).bind fun _ => (qbs_inOrder n K s1.2 a1 v94 v95 v96).bind fun p97 =>
        (zscr X (s1.1 + 1)).bind fun v98 =>
        (zscr X (s1.1 + 2)).bind fun v99 =>
        (zscr X (s1.1 + 3)).bind fun v100 =>
        (zgk K a2 12 49).bind fun _ => (qmd_inOrder n K p97.2 a2 v98 v99 v100).bind fun p101 =>
        if zw p97.1 = zw p101.1 then
          some (.inl p101.2)
        else
          some (.inr (.inr (0, p101.2)))
      else if zw (zand v2 63) = 17 then
        (zscr X (s1.1 + 1)).bind fun v102 =>
        (zscr X (s1.1 + 2)).bind fun v103 =>
        (zscr X (s1.1 + 3)).bind fun v104 =>
        (zgk K a1 11 15).bind fun _ => (qbs_beat n K s1.2 a1 v102 v103 v104).bind fun p105 =>
        (zscr X (s1.1 + 1)).bind fun v106 =>
        (zscr X (s1.1 + 2)).bind fun v107 =>
        (zscr X (s1.1 + 3)).bind fun v108 =>
        (zgk K a2 12 49).bind fun _ => (qmd_beat n K p105.2 a2 v106 v107 v108).bind fun p109 =>
        if zw p105.1 = zw p109.1 then
          some (.inl p109.2)
        else
          some (.inr (.inr (0, p109.2)))
      else if zw (zand v2 63) = 18 then
        (zscr X (s1.1 + 1)).bind fun v110 =>
        (zscr X (s1.1 + 2)).bind fun v111 =>
        (zscr X (s1.1 + 3)).bind fun v112 =>
        (zscr X (s1.1 + 4)).bind fun v113 =>
        (zscr X (s1.1 + 5)).bind fun v114 =>
        (zgk K a1 11 15).bind fun _ => (qbs_queued n K s1.2 a1 v110 v111 v112 v113 v114).bind fun p115 =>
        (zscr X (s1.1 + 1)).bind fun v116 =>
        (zscr X (s1.1 + 2)).bind fun v117 =>
        (zscr X (s1.1 + 3)).bind fun v118 =>
        (zscr X (s1.1 + 4)).bind fun v119 =>
        (zscr X (s1.1 + 5)).bind fun v120 =>
        (zgk K a2 12 49).bind fun _ => (qmd_queued n K p115.2 a2 v116 v117 v118 v119 v120).bind fun p121 =>
        if zw p115.1 = zw p121.1 then
          some (.inl p121.2)
        else
          some (.inr (.inr (0, p121.2)))
      else if zw (zand v2 63) = 19 then
        (zscr X (s1.1 + 1)).bind fun v122 =>
        (zscr X (s1.1 + 2)).bind fun v123 =>
        (zscr X (s1.1 + 3)).bind fun v124 =>
        (zgk K a1 11 15).bind fun _ => (qbs_rate n K s1.2 a1 v122 v123 v124).bind fun p125 =>
        (zscr X (s1.1 + 1)).bind fun v126 =>
        (zscr X (s1.1 + 2)).bind fun v127 =>
        (zscr X (s1.1 + 3)).bind fun v128 =>
        (zgk K a2 12 49).bind fun _ => (qmd_rate n K p125.2 a2 v126 v127 v128).bind fun p129 =>
        if zw p125.1 = zw p129.1 then
          some (.inl p129.2)
        else
          some (.inr (.inr (0, p129.2)))
      else if zw (zand v2 63) = 20 then
        (zscr X (s1.1 + 1)).bind fun v130 =>
        (zgk K a1 11 15).bind fun _ => (qbs_steps n K s1.2 a1 v130).bind fun p131 =>
        (zscr X (s1.1 + 1)).bind fun v132 =>
        (zgk K a2 12 49).bind fun _ => (qmd_steps n K p131.2 a2 v132).bind fun p133 =>
        if zw p131.1 = zw p133.1 then
          some (.inl p133.2)
        else
          some (.inr (.inr (0, p133.2)))
      else if zw (zand v2 63) = 21 then
        (zscr X (s1.1 + 1)).bind fun v134 =>
        (zscr X (s1.1 + 2)).bind fun v135 =>
        (zgk K a1 11 15).bind fun _ => (qbs_feed n K s1.2 a1 (zlor (zlshl (zw v134) 32) (zland (zw v135) 4294967295))).bind fun p136 =>
        (zscr X (s1.1 + 1)).bind fun v137 =>
        (zscr X (s1.1 + 2)).bind fun v138 =>
        (zgk K a2 12 49).bind fun _ => (qmd_feed n K p136.2 a2 (zlor (zlshl (zw v137) 32) (zland (zw v138) 4294967295))).bind fun p139 =>
        if zw p136.1 = zw p139.1 then
          some (.inl p139.2)
        else
          some (.inr (.inr (0, p139.2)))
      else if zw (zand v2 63) = 22 then
        (zscr X (s1.1 + 1)).bind fun v140 =>
        (zgk K a1 11 15).bind fun _ => (qbs_end K s1.2 a1 v140).bind fun p141 =>
        (zscr X (s1.1 + 1)).bind fun v142 =>
        (zgk K a2 12 49).bind fun _ => (qmd_end K p141.2 a2 v142).bind fun p143 =>
        if zw p141.1 = zw p143.1 then
          some (.inl p143.2)
        else
          some (.inr (.inr (0, p143.2)))
      else if zw (zand v2 63) = 23 then
        (zgk K a1 11 15).bind fun _ => (qbs_program n K s1.2 a1).bind fun p144 =>
        (zgk K a2 12 49).bind fun _ => (qmd_program n K p144.2 a2).bind fun p145 =>
        if zw p144.1 = zw p145.1 then
          some (.inl p145.2)
        else
          some (.inr (.inr (0, p145.2)))
      else if zw (zand v2 63) = 24 then
        (zgk K a1 11 15).bind fun _ => (qbs_fault K s1.2 a1).bind fun v146 =>
        (zgk K a2 12 49).bind fun _ => (qmd_fault K s1.2 a2).bind fun v147 =>
        if zw v146 = zw v147 then
          some (.inl s1.2)
        else
          some (.inr (.inr (0, s1.2)))
      else if zw (zand v2 63) = 25 then
        (zscr X (s1.1 + 1)).bind fun v148 =>
        (zscr X (s1.1 + 2)).bind fun v149 =>
        (zgk K a1 11 15).bind fun _ => (qbs_line K s1.2 a1 v148 v149).bind fun v150 =>
        (zscr X (s1.1 + 1)).bind fun v151 =>
        (zscr X (s1.1 + 2)).bind fun v152 =>
        (zgk K a2 12 49).bind fun _ => (qmd_line K s1.2 a2 v151 v152).bind fun v153 =>
        if zw v150 = zw v153 then
          some (.inl s1.2)
        else
          some (.inr (.inr (0, s1.2)))
      else if zw (zand v2 63) = 26 then
        (zscr X (s1.1 + 1)).bind fun v154 =>
        (zscr X (s1.1 + 2)).bind fun v155 =>
        (if zw v155 = 0 then
          some 0
        else
          some 1 : Option (Int)).bind fun j156 =>
        (zscr X (s1.1 + 3)).bind fun v157 =>
        (zgk K a1 11 15).bind fun _ => (qbs_time n K s1.2 a1 v154 j156 v157).bind fun p158 =>
        (zscr X (s1.1 + 1)).bind fun v159 =>
        (zscr X (s1.1 + 2)).bind fun v160 =>
        (if zw v160 = 0 then
          some 0
        else
          some 1 : Option (Int)).bind fun j161 =>
        (zscr X (s1.1 + 3)).bind fun v162 =>
        (zgk K a2 12 49).bind fun _ => (qmd_time n K p158.2 a2 v159 j161 v162).bind fun p163 =>
        if zw p158.1 = zw p163.1 then
          some (.inl p163.2)
        else
          some (.inr (.inr (0, p163.2)))
      else if zw (zand v2 63) = 27 then
        (zscr X (s1.1 + 1)).bind fun v164 =>
        (zscr X (s1.1 + 2)).bind fun v165 =>
        (if zw v165 = 0 then
          some 0
        else
          some 1 : Option (Int)).bind fun j166 =>
        (zscr X (s1.1 + 3)).bind fun v167 =>
        (zscr X (s1.1 + 4)).bind fun v168 =>
        (zscr X (s1.1 + 5)).bind fun v169 =>
        (zgk K a1 11 15).bind fun _ => (qbs_when n K s1.2 a1 v164 j166 v167 v168 v169).bind fun p170 =>
        (zscr X (s1.1 + 1)).bind fun v171 =>
        (zscr X (s1.1 + 2)).bind fun v172 =>
        (if zw v172 = 0 then
          some 0
        else
          some 1 : Option (Int)).bind fun j173 =>
        (zscr X (s1.1 + 3)).bind fun v174 =>
        (zscr X (s1.1 + 4)).bind fun v175 =>
        (zscr X (s1.1 + 5)).bind fun v176 =>
        (zgk K a2 12 49).bind fun _ => (qmd_when n K p170.2 a2 v171 j173 v174 v175 v176).bind fun p177 =>
        if zw p170.1 = zw p177.1 then
          some (.inl p177.2)
        else
          some (.inr (.inr (0, p177.2)))
      else if zw (zand v2 63) = 28 then
        (zscr X (s1.1 + 1)).bind fun v178 =>
        (zscr X (s1.1 + 2)).bind fun v179 =>
        (if zw v179 = 0 then
          some 0
        else
          some 1 : Option (Int)).bind fun j180 =>
        (zscr X (s1.1 + 3)).bind fun v181 =>
        (zscr X (s1.1 + 4)).bind fun v182 =>
        (zgk K a1 11 15).bind fun _ => (qbs_used n K s1.2 a1 v178 j180 v181 v182).bind fun p183 =>
        (zscr X (s1.1 + 1)).bind fun v184 =>
        (zscr X (s1.1 + 2)).bind fun v185 =>
        (if zw v185 = 0 then
          some 0
        else
          some 1 : Option (Int)).bind fun j186 =>
        (zscr X (s1.1 + 3)).bind fun v187 =>
        (zscr X (s1.1 + 4)).bind fun v188 =>
        (zgk K a2 12 49).bind fun _ => (qmd_used n K p183.2 a2 v184 j186 v187 v188).bind fun p189 =>
        if zw p183.1 = zw p189.1 then
          some (.inl p189.2)
        else
          some (.inr (.inr (0, p189.2)))
      else if zw (zand v2 63) = 29 then
        (zscr X (s1.1 + 1)).bind fun v190 =>
        (zscr X (s1.1 + 2)).bind fun v191 =>
        (if zw v191 = 0 then
          some 0
        else
          some 1 : Option (Int)).bind fun j192 =>
        (zscr X (s1.1 + 3)).bind fun v193 =>
        (zgk K a1 11 15).bind fun _ => (qbs_tuned n K s1.2 a1 v190 j192 v193).bind fun p194 =>
        (zscr X (s1.1 + 1)).bind fun v195 =>
        (zscr X (s1.1 + 2)).bind fun v196 =>
        (if zw v196 = 0 then
          some 0
        else
          some 1 : Option (Int)).bind fun j197 =>
        (zscr X (s1.1 + 3)).bind fun v198 =>
        (zgk K a2 12 49).bind fun _ => (qmd_tuned n K p194.2 a2 v195 j197 v198).bind fun p199 =>
        if zw p194.1 = zw p199.1 then
          some (.inl p199.2)
        else
          some (.inr (.inr (0, p199.2)))
      else if zw (zand v2 63) = 30 then
        (zscr X (s1.1 + 1)).bind fun v200 =>
        (zscr X (s1.1 + 2)).bind fun v201 =>
        (zscr X (s1.1 + 3)).bind fun v202 =>
        (zgk K a1 11 15).bind fun _ => (qbs_sheet n K s1.2 a1 v200 v201 v202).bind fun p203 =>
        (zscr X (s1.1 + 1)).bind fun v204 =>
        (zscr X (s1.1 + 2)).bind fun v205 =>
        (zscr X (s1.1 + 3)).bind fun v206 =>
        (zgk K a2 12 49).bind fun _ => (qmd_sheet n K p203.2 a2 v204 v205 v206).bind fun p207 =>
        if zw p203.1 = zw p207.1 then
          some (.inl p207.2)
        else
          some (.inr (.inr (0, p207.2)))
      else if zw (zand v2 63) = 31 then
        (zscr X (s1.1 + 1)).bind fun v208 =>
        (zscr X (s1.1 + 2)).bind fun v209 =>
        (zscr X (s1.1 + 3)).bind fun v210 =>
        (zgk K a1 11 15).bind fun _ => (qbs_write K s1.2 a1 v208 v209 v210).bind fun p211 =>
        (zscr X (s1.1 + 1)).bind fun v212 =>
        (zscr X (s1.1 + 2)).bind fun v213 =>
        (zscr X (s1.1 + 3)).bind fun v214 =>
        (zgk K a2 12 49).bind fun _ => (qmd_write K p211.2 a2 v212 v213 v214).bind fun p215 =>
        if zw p211.1 = zw p215.1 then
          some (.inl p215.2)
        else
          some (.inr (.inr (0, p215.2)))
      else if zw (zand v2 63) = 32 then
        (zscr X (s1.1 + 1)).bind fun v216 =>
        (zscr X (s1.1 + 2)).bind fun v217 =>
        (zscr X (s1.1 + 3)).bind fun v218 =>
        (zgk K a1 11 15).bind fun _ => (qbs_read n K s1.2 a1 v216 v217 v218).bind fun p219 =>
        (zscr X (s1.1 + 1)).bind fun v220 =>
        (zscr X (s1.1 + 2)).bind fun v221 =>
        (zscr X (s1.1 + 3)).bind fun v222 =>
        (zgk K a2 12 49).bind fun _ => (qmd_read n K p219.2 a2 v220 v221 v222).bind fun p223 =>
        if zw p219.1 = zw p223.1 then
          some (.inl p223.2)
        else
          some (.inr (.inr (0, p223.2)))
      else if zw (zand v2 63) = 33 then
        (zscr X (s1.1 + 1)).bind fun v224 =>
        (zgk K a1 11 15).bind fun _ => (qbs_count K s1.2 a1 v224).bind fun v225 =>
        (zscr X (s1.1 + 1)).bind fun v226 =>
        (zgk K a2 12 49).bind fun _ => (qmd_count K s1.2 a2 v226).bind fun v227 =>
        if zw v225 = zw v227 then
          some (.inl s1.2)
        else
          some (.inr (.inr (0, s1.2)))
      else 
        some (.inl s1.2)) fun j3 =>
      some (.inl (s1.1 + 6, j3))) n (a3, M)
set_option maxRecDepth 20000 in
set_option maxHeartbeats 4000000 in
theorem t_qlw_law (X : Int × (Int → Int)) (n : Nat) (K : zK) (M : zM) (a1 a2 a3 : Int) (g_a1 : 1 ≤ a1) (g_a2 : 1 ≤ a2) : Rz X 205 (10, [zr (-1), zr a1, zr a2, zi a3], [], M, K) (qlw_law X n K M a1 a2 a3) (fun e P => P (some (zi e.1), e.2, K)) := by
  have h205 : zT 205 = zt205 := rfl
  unfold qlw_law
  refine Rz.wh (hd := fun s1 => (10, [zr (-1), zr a1, zr a2, zi s1.1], [], s1.2, K)) (fun s1 => ?_) n (a3, M)
  (try dsimp only)
  refine z_iload h205 rfl rfl (Or.inl rfl) ?_
  refine z_aload h205 rfl rfl (Or.inl rfl) (by omega) ?_
  refine z_slen h205 rfl ?_
  refine z_iconst h205 rfl ?_
  refine z_isub h205 rfl ?_
  refine z_icgt h205 rfl ?_ ?_
  · refine z_iconst h205 rfl ?_
    exact z_zret h205 rfl (Or.inr rfl) (fun _ q => q)
  · refine z_aload h205 rfl rfl (Or.inl rfl) (by omega) ?_
    refine z_iload h205 rfl rfl (Or.inl rfl) ?_
    refine z_sald h205 rfl (fun v2 => ?_)
    refine z_iconst h205 rfl ?_
    refine z_iand h205 rfl ?_
    refine Rz.esc (t := fun j3 => (1046, [zr (-1), zr a1, zr a2, zi s1.1], [], j3, K)) ?_ (fun j3 => ?_)
    · refine z_sw h205 rfl (fun hc => ?_) (fun hc => ?_)
      · rw [if_neg (show ¬ zw (zand v2 63) = 0 by omega), if_neg (show ¬ zw (zand v2 63) = 1 by omega), if_neg (show ¬ zw (zand v2 63) = 2 by omega), if_neg (show ¬ zw (zand v2 63) = 3 by omega), if_neg (show ¬ zw (zand v2 63) = 4 by omega), if_neg (show ¬ zw (zand v2 63) = 5 by omega), if_neg (show ¬ zw (zand v2 63) = 6 by omega), if_neg (show ¬ zw (zand v2 63) = 7 by omega), if_neg (show ¬ zw (zand v2 63) = 8 by omega), if_neg (show ¬ zw (zand v2 63) = 9 by omega), if_neg (show ¬ zw (zand v2 63) = 10 by omega), if_neg (show ¬ zw (zand v2 63) = 11 by omega), if_neg (show ¬ zw (zand v2 63) = 12 by omega), if_neg (show ¬ zw (zand v2 63) = 13 by omega), if_neg (show ¬ zw (zand v2 63) = 14 by omega), if_neg (show ¬ zw (zand v2 63) = 15 by omega), if_neg (show ¬ zw (zand v2 63) = 16 by omega), if_neg (show ¬ zw (zand v2 63) = 17 by omega), if_neg (show ¬ zw (zand v2 63) = 18 by omega), if_neg (show ¬ zw (zand v2 63) = 19 by omega), if_neg (show ¬ zw (zand v2 63) = 20 by omega), if_neg (show ¬ zw (zand v2 63) = 21 by omega), if_neg (show ¬ zw (zand v2 63) = 22 by omega), if_neg (show ¬ zw (zand v2 63) = 23 by omega), if_neg (show ¬ zw (zand v2 63) = 24 by omega), if_neg (show ¬ zw (zand v2 63) = 25 by omega), if_neg (show ¬ zw (zand v2 63) = 26 by omega), if_neg (show ¬ zw (zand v2 63) = 27 by omega), if_neg (show ¬ zw (zand v2 63) = 28 by omega), if_neg (show ¬ zw (zand v2 63) = 29 by omega), if_neg (show ¬ zw (zand v2 63) = 30 by omega), if_neg (show ¬ zw (zand v2 63) = 31 by omega), if_neg (show ¬ zw (zand v2 63) = 32 by omega), if_neg (show ¬ zw (zand v2 63) = 33 by omega)]
        exact Rz.here fun _ q => q
      · rcases (show zw (zand v2 63) = 0 ∨ zw (zand v2 63) = 1 ∨ zw (zand v2 63) = 2 ∨ zw (zand v2 63) = 3 ∨ zw (zand v2 63) = 4 ∨ zw (zand v2 63) = 5 ∨ zw (zand v2 63) = 6 ∨ zw (zand v2 63) = 7 ∨ zw (zand v2 63) = 8 ∨ zw (zand v2 63) = 9 ∨ zw (zand v2 63) = 10 ∨ zw (zand v2 63) = 11 ∨ zw (zand v2 63) = 12 ∨ zw (zand v2 63) = 13 ∨ zw (zand v2 63) = 14 ∨ zw (zand v2 63) = 15 ∨ zw (zand v2 63) = 16 ∨ zw (zand v2 63) = 17 ∨ zw (zand v2 63) = 18 ∨ zw (zand v2 63) = 19 ∨ zw (zand v2 63) = 20 ∨ zw (zand v2 63) = 21 ∨ zw (zand v2 63) = 22 ∨ zw (zand v2 63) = 23 ∨ zw (zand v2 63) = 24 ∨ zw (zand v2 63) = 25 ∨ zw (zand v2 63) = 26 ∨ zw (zand v2 63) = 27 ∨ zw (zand v2 63) = 28 ∨ zw (zand v2 63) = 29 ∨ zw (zand v2 63) = 30 ∨ zw (zand v2 63) = 31 ∨ zw (zand v2 63) = 32 ∨ zw (zand v2 63) = 33 by omega) with hq | hq | hq | hq | hq | hq | hq | hq | hq | hq | hq | hq | hq | hq | hq | hq | hq | hq | hq | hq | hq | hq | hq | hq | hq | hq | hq | hq | hq | hq | hq | hq | hq | hq
        · rw [if_pos hq]
          refine ⟨22, by rw [hq]; rfl, ?_⟩
          show Rz X 205 (22, [zr (-1), zr a1, zr a2, zi s1.1], [], s1.2, K) _ _
          refine z_aload h205 rfl rfl (Or.inl rfl) (by omega) ?_
          refine z_aload h205 rfl rfl (Or.inl rfl) (by omega) ?_
          refine z_iload h205 rfl rfl (Or.inl rfl) ?_
          refine z_iconst h205 rfl ?_
          refine z_iadd h205 rfl ?_
          refine z_sald h205 rfl (fun v4 => ?_)
          refine z_aload h205 rfl rfl (Or.inl rfl) (by omega) ?_
          refine z_iload h205 rfl rfl (Or.inl rfl) ?_
          refine z_iconst h205 rfl ?_
          refine z_iadd h205 rfl ?_
          refine z_sald h205 rfl (fun v5 => ?_)
          refine z_cv (a := 89) (b := 0) (l := [13, 3, 11, 15]) (as := [zi v4, zi v5]) (lsE := [zr a1, zi v4, zi v5]) (st' := []) (val := fun p => some (zi p.1)) (mem := fun p => p.2) h205 rfl ⟨rfl, rfl, rfl, Nat.le_of_ble_eq_true rfl, Nat.le_of_ble_eq_true rfl, rfl⟩ (fun g1 => (t_qbs_table X n K s1.2 a1 v4 v5 (by omega))) (fun p6 => ?_)
          refine z_aload h205 rfl rfl (Or.inl rfl) (by omega) ?_
          refine z_aload h205 rfl rfl (Or.inl rfl) (by omega) ?_
          refine z_iload h205 rfl rfl (Or.inl rfl) ?_
          refine z_iconst h205 rfl ?_
          refine z_iadd h205 rfl ?_
          refine z_sald h205 rfl (fun v7 => ?_)
          refine z_aload h205 rfl rfl (Or.inl rfl) (by omega) ?_
          refine z_iload h205 rfl rfl (Or.inl rfl) ?_
          refine z_iconst h205 rfl ?_
          refine z_iadd h205 rfl ?_
          refine z_sald h205 rfl (fun v8 => ?_)
          refine z_cv (a := 131) (b := 0) (l := [17, 3, 12, 49]) (as := [zi v7, zi v8]) (lsE := [zr a2, zi v7, zi v8]) (st' := [zi p6.1]) (val := fun p => some (zi p.1)) (mem := fun p => p.2) h205 rfl ⟨rfl, rfl, rfl, Nat.le_of_ble_eq_true rfl, Nat.le_of_ble_eq_true rfl, rfl⟩ (fun g1 => (t_qmd_table X n K p6.2 a2 v7 v8 (by omega))) (fun p9 => ?_)
          refine z_iceq h205 rfl ?_ ?_
          · exact Rz.here fun _ q => q
          · refine z_iconst h205 rfl ?_
            exact z_zret h205 rfl (Or.inl rfl) (fun _ q => q)
        · rw [if_neg (show ¬ zw (zand v2 63) = 0 by omega), if_pos hq]
          refine ⟨49, by rw [hq]; rfl, ?_⟩
          show Rz X 205 (49, [zr (-1), zr a1, zr a2, zi s1.1], [], s1.2, K) _ _
          refine z_aload h205 rfl rfl (Or.inl rfl) (by omega) ?_
          refine z_aload h205 rfl rfl (Or.inl rfl) (by omega) ?_
          refine z_iload h205 rfl rfl (Or.inl rfl) ?_
          refine z_iconst h205 rfl ?_
          refine z_iadd h205 rfl ?_
          refine z_sald h205 rfl (fun v10 => ?_)
          refine z_cv (a := 90) (b := 0) (l := [18, 2, 11, 15]) (as := [zi v10]) (lsE := [zr a1, zi v10, zU]) (st' := []) (val := fun p => some (zi p.1)) (mem := fun p => p.2) h205 rfl ⟨rfl, rfl, rfl, Nat.le_of_ble_eq_true rfl, Nat.le_of_ble_eq_true rfl, rfl⟩ (fun g1 => (t_qbs_banks X n K s1.2 a1 v10 (by omega))) (fun p11 => ?_)
          refine z_aload h205 rfl rfl (Or.inl rfl) (by omega) ?_
          refine z_aload h205 rfl rfl (Or.inl rfl) (by omega) ?_
          refine z_iload h205 rfl rfl (Or.inl rfl) ?_
          refine z_iconst h205 rfl ?_
          refine z_iadd h205 rfl ?_
          refine z_sald h205 rfl (fun v12 => ?_)
          refine z_cv (a := 132) (b := 0) (l := [22, 2, 12, 49]) (as := [zi v12]) (lsE := [zr a2, zi v12, zU]) (st' := [zi p11.1]) (val := fun p => some (zi p.1)) (mem := fun p => p.2) h205 rfl ⟨rfl, rfl, rfl, Nat.le_of_ble_eq_true rfl, Nat.le_of_ble_eq_true rfl, rfl⟩ (fun g1 => (t_qmd_banks X n K p11.2 a2 v12 (by omega))) (fun p13 => ?_)
          refine z_iceq h205 rfl ?_ ?_
          · exact Rz.here fun _ q => q
          · refine z_iconst h205 rfl ?_
            exact z_zret h205 rfl (Or.inl rfl) (fun _ q => q)
        · rw [if_neg (show ¬ zw (zand v2 63) = 0 by omega), if_neg (show ¬ zw (zand v2 63) = 1 by omega), if_pos hq]
          refine ⟨66, by rw [hq]; rfl, ?_⟩
          show Rz X 205 (66, [zr (-1), zr a1, zr a2, zi s1.1], [], s1.2, K) _ _
          refine z_aload h205 rfl rfl (Or.inl rfl) (by omega) ?_
          refine z_aload h205 rfl rfl (Or.inl rfl) (by omega) ?_
          refine z_iload h205 rfl rfl (Or.inl rfl) ?_
          refine z_iconst h205 rfl ?_
          refine z_iadd h205 rfl ?_
          refine z_sald h205 rfl (fun v14 => ?_)
          refine z_aload h205 rfl rfl (Or.inl rfl) (by omega) ?_
          refine z_iload h205 rfl rfl (Or.inl rfl) ?_
          refine z_iconst h205 rfl ?_
          refine z_iadd h205 rfl ?_
          refine z_sald h205 rfl (fun v15 => ?_)
          refine z_aload h205 rfl rfl (Or.inl rfl) (by omega) ?_
          refine z_iload h205 rfl rfl (Or.inl rfl) ?_
          refine z_iconst h205 rfl ?_
          refine z_iadd h205 rfl ?_
          refine z_sald h205 rfl (fun v16 => ?_)
          refine z_cv (a := 91) (b := 0) (l := [23, 4, 11, 15]) (as := [zi v14, zi v15, zi v16]) (lsE := [zr a1, zi v14, zi v15, zi v16, zU]) (st' := []) (val := fun p => some (zi p.1)) (mem := fun p => p.2) h205 rfl ⟨rfl, rfl, rfl, Nat.le_of_ble_eq_true rfl, Nat.le_of_ble_eq_true rfl, rfl⟩ (fun g1 => (t_qbs_law X K s1.2 a1 v14 v15 v16 (by omega))) (fun p17 => ?_)
          refine z_aload h205 rfl rfl (Or.inl rfl) (by omega) ?_
          refine z_aload h205 rfl rfl (Or.inl rfl) (by omega) ?_
          refine z_iload h205 rfl rfl (Or.inl rfl) ?_
          refine z_iconst h205 rfl ?_
          refine z_iadd h205 rfl ?_
          refine z_sald h205 rfl (fun v18 => ?_)
          refine z_aload h205 rfl rfl (Or.inl rfl) (by omega) ?_
          refine z_iload h205 rfl rfl (Or.inl rfl) ?_
          refine z_iconst h205 rfl ?_
          refine z_iadd h205 rfl ?_
          refine z_sald h205 rfl (fun v19 => ?_)
          refine z_aload h205 rfl rfl (Or.inl rfl) (by omega) ?_
          refine z_iload h205 rfl rfl (Or.inl rfl) ?_
          refine z_iconst h205 rfl ?_
          refine z_iadd h205 rfl ?_
          refine z_sald h205 rfl (fun v20 => ?_)
          refine z_cv (a := 133) (b := 0) (l := [27, 4, 12, 49]) (as := [zi v18, zi v19, zi v20]) (lsE := [zr a2, zi v18, zi v19, zi v20, zU]) (st' := [zi p17.1]) (val := fun p => some (zi p.1)) (mem := fun p => p.2) h205 rfl ⟨rfl, rfl, rfl, Nat.le_of_ble_eq_true rfl, Nat.le_of_ble_eq_true rfl, rfl⟩ (fun g1 => (t_qmd_law X K p17.2 a2 v18 v19 v20 (by omega))) (fun p21 => ?_)
          refine z_iceq h205 rfl ?_ ?_
          · exact Rz.here fun _ q => q
          · refine z_iconst h205 rfl ?_
            exact z_zret h205 rfl (Or.inl rfl) (fun _ q => q)
        · rw [if_neg (show ¬ zw (zand v2 63) = 0 by omega), if_neg (show ¬ zw (zand v2 63) = 1 by omega), if_neg (show ¬ zw (zand v2 63) = 2 by omega), if_pos hq]
          refine ⟨103, by rw [hq]; rfl, ?_⟩
          show Rz X 205 (103, [zr (-1), zr a1, zr a2, zi s1.1], [], s1.2, K) _ _
          refine z_aload h205 rfl rfl (Or.inl rfl) (by omega) ?_
          refine z_aload h205 rfl rfl (Or.inl rfl) (by omega) ?_
          refine z_iload h205 rfl rfl (Or.inl rfl) ?_
          refine z_iconst h205 rfl ?_
          refine z_iadd h205 rfl ?_
          refine z_sald h205 rfl (fun v22 => ?_)
          refine z_aload h205 rfl rfl (Or.inl rfl) (by omega) ?_
          refine z_iload h205 rfl rfl (Or.inl rfl) ?_
          refine z_iconst h205 rfl ?_
          refine z_iadd h205 rfl ?_
          refine z_sald h205 rfl (fun v23 => ?_)
          refine z_aload h205 rfl rfl (Or.inl rfl) (by omega) ?_
          refine z_iload h205 rfl rfl (Or.inl rfl) ?_
          refine z_iconst h205 rfl ?_
          refine z_iadd h205 rfl ?_
          refine z_sald h205 rfl (fun v24 => ?_)
          refine z_cv (a := 92) (b := 0) (l := [28, 4, 11, 15]) (as := [zi v22, zi v23, zi v24]) (lsE := [zr a1, zi v22, zi v23, zi v24, zU]) (st' := []) (val := fun p => some (zi p.1)) (mem := fun p => p.2) h205 rfl ⟨rfl, rfl, rfl, Nat.le_of_ble_eq_true rfl, Nat.le_of_ble_eq_true rfl, rfl⟩ (fun g1 => (t_qbs_lay X K s1.2 a1 v22 v23 v24 (by omega))) (fun p25 => ?_)
          refine z_aload h205 rfl rfl (Or.inl rfl) (by omega) ?_
          refine z_aload h205 rfl rfl (Or.inl rfl) (by omega) ?_
          refine z_iload h205 rfl rfl (Or.inl rfl) ?_
          refine z_iconst h205 rfl ?_
          refine z_iadd h205 rfl ?_
          refine z_sald h205 rfl (fun v26 => ?_)
          refine z_aload h205 rfl rfl (Or.inl rfl) (by omega) ?_
          refine z_iload h205 rfl rfl (Or.inl rfl) ?_
          refine z_iconst h205 rfl ?_
          refine z_iadd h205 rfl ?_
          refine z_sald h205 rfl (fun v27 => ?_)
          refine z_aload h205 rfl rfl (Or.inl rfl) (by omega) ?_
          refine z_iload h205 rfl rfl (Or.inl rfl) ?_
          refine z_iconst h205 rfl ?_
          refine z_iadd h205 rfl ?_
          refine z_sald h205 rfl (fun v28 => ?_)
          refine z_cv (a := 135) (b := 0) (l := [31, 4, 12, 49]) (as := [zi v26, zi v27, zi v28]) (lsE := [zr a2, zi v26, zi v27, zi v28, zU]) (st' := [zi p25.1]) (val := fun p => some (zi p.1)) (mem := fun p => p.2) h205 rfl ⟨rfl, rfl, rfl, Nat.le_of_ble_eq_true rfl, Nat.le_of_ble_eq_true rfl, rfl⟩ (fun g1 => (t_qmd_lay X K p25.2 a2 v26 v27 v28 (by omega))) (fun p29 => ?_)
          refine z_iceq h205 rfl ?_ ?_
          · exact Rz.here fun _ q => q
          · refine z_iconst h205 rfl ?_
            exact z_zret h205 rfl (Or.inl rfl) (fun _ q => q)
        · rw [if_neg (show ¬ zw (zand v2 63) = 0 by omega), if_neg (show ¬ zw (zand v2 63) = 1 by omega), if_neg (show ¬ zw (zand v2 63) = 2 by omega), if_neg (show ¬ zw (zand v2 63) = 3 by omega), if_pos hq]
          refine ⟨140, by rw [hq]; rfl, ?_⟩
          show Rz X 205 (140, [zr (-1), zr a1, zr a2, zi s1.1], [], s1.2, K) _ _
          refine z_aload h205 rfl rfl (Or.inl rfl) (by omega) ?_
          refine z_aload h205 rfl rfl (Or.inl rfl) (by omega) ?_
          refine z_iload h205 rfl rfl (Or.inl rfl) ?_
          refine z_iconst h205 rfl ?_
          refine z_iadd h205 rfl ?_
          refine z_sald h205 rfl (fun v30 => ?_)
          refine z_aload h205 rfl rfl (Or.inl rfl) (by omega) ?_
          refine z_iload h205 rfl rfl (Or.inl rfl) ?_
          refine z_iconst h205 rfl ?_
          refine z_iadd h205 rfl ?_
          refine z_sald h205 rfl (fun v31 => ?_)
          refine z_aload h205 rfl rfl (Or.inl rfl) (by omega) ?_
          refine z_iload h205 rfl rfl (Or.inl rfl) ?_
          refine z_iconst h205 rfl ?_
          refine z_iadd h205 rfl ?_
          refine z_sald h205 rfl (fun v32 => ?_)
          refine z_cv (a := 93) (b := 0) (l := [32, 4, 11, 15]) (as := [zi v30, zi v31, zi v32]) (lsE := [zr a1, zi v30, zi v31, zi v32]) (st' := []) (val := fun p => some (zi p)) (mem := fun _ => s1.2) h205 rfl ⟨rfl, rfl, rfl, Nat.le_of_ble_eq_true rfl, Nat.le_of_ble_eq_true rfl, rfl⟩ (fun g1 => (t_qbs_cell X n K s1.2 a1 v30 v31 v32 (by omega))) (fun v33 => ?_)
          refine z_aload h205 rfl rfl (Or.inl rfl) (by omega) ?_
          refine z_aload h205 rfl rfl (Or.inl rfl) (by omega) ?_
          refine z_iload h205 rfl rfl (Or.inl rfl) ?_
          refine z_iconst h205 rfl ?_
          refine z_iadd h205 rfl ?_
          refine z_sald h205 rfl (fun v34 => ?_)
          refine z_aload h205 rfl rfl (Or.inl rfl) (by omega) ?_
          refine z_iload h205 rfl rfl (Or.inl rfl) ?_
          refine z_iconst h205 rfl ?_
          refine z_iadd h205 rfl ?_
          refine z_sald h205 rfl (fun v35 => ?_)
          refine z_aload h205 rfl rfl (Or.inl rfl) (by omega) ?_
          refine z_iload h205 rfl rfl (Or.inl rfl) ?_
          refine z_iconst h205 rfl ?_
          refine z_iadd h205 rfl ?_
          refine z_sald h205 rfl (fun v36 => ?_)
          refine z_cv (a := 138) (b := 0) (l := [35, 4, 12, 49]) (as := [zi v34, zi v35, zi v36]) (lsE := [zr a2, zi v34, zi v35, zi v36, zU, zU]) (st' := [zi v33]) (val := fun p => some (zi p.1)) (mem := fun p => p.2) h205 rfl ⟨rfl, rfl, rfl, Nat.le_of_ble_eq_true rfl, Nat.le_of_ble_eq_true rfl, rfl⟩ (fun g1 => (t_qmd_cell X n K s1.2 a2 v34 v35 v36 (by omega))) (fun p37 => ?_)
          refine z_iceq h205 rfl ?_ ?_
          · exact Rz.here fun _ q => q
          · refine z_iconst h205 rfl ?_
            exact z_zret h205 rfl (Or.inl rfl) (fun _ q => q)
        · rw [if_neg (show ¬ zw (zand v2 63) = 0 by omega), if_neg (show ¬ zw (zand v2 63) = 1 by omega), if_neg (show ¬ zw (zand v2 63) = 2 by omega), if_neg (show ¬ zw (zand v2 63) = 3 by omega), if_neg (show ¬ zw (zand v2 63) = 4 by omega), if_pos hq]
          refine ⟨177, by rw [hq]; rfl, ?_⟩
          show Rz X 205 (177, [zr (-1), zr a1, zr a2, zi s1.1], [], s1.2, K) _ _
          refine z_aload h205 rfl rfl (Or.inl rfl) (by omega) ?_
          refine z_aload h205 rfl rfl (Or.inl rfl) (by omega) ?_
          refine z_iload h205 rfl rfl (Or.inl rfl) ?_
          refine z_iconst h205 rfl ?_
          refine z_iadd h205 rfl ?_
          refine z_sald h205 rfl (fun v38 => ?_)
          refine z_aload h205 rfl rfl (Or.inl rfl) (by omega) ?_
          refine z_iload h205 rfl rfl (Or.inl rfl) ?_
          refine z_iconst h205 rfl ?_
          refine z_iadd h205 rfl ?_
          refine z_sald h205 rfl (fun v39 => ?_)
          refine z_cv (a := 94) (b := 0) (l := [36, 3, 11, 15]) (as := [zi v38, zi v39]) (lsE := [zr a1, zi v38, zi v39]) (st' := []) (val := fun p => some (zi p)) (mem := fun _ => s1.2) h205 rfl ⟨rfl, rfl, rfl, Nat.le_of_ble_eq_true rfl, Nat.le_of_ble_eq_true rfl, rfl⟩ (fun g1 => (t_qbs_bank X n K s1.2 a1 v38 v39 (by omega))) (fun v40 => ?_)
          refine z_aload h205 rfl rfl (Or.inl rfl) (by omega) ?_
          refine z_aload h205 rfl rfl (Or.inl rfl) (by omega) ?_
          refine z_iload h205 rfl rfl (Or.inl rfl) ?_
          refine z_iconst h205 rfl ?_
          refine z_iadd h205 rfl ?_
          refine z_sald h205 rfl (fun v41 => ?_)
          refine z_aload h205 rfl rfl (Or.inl rfl) (by omega) ?_
          refine z_iload h205 rfl rfl (Or.inl rfl) ?_
          refine z_iconst h205 rfl ?_
          refine z_iadd h205 rfl ?_
          refine z_sald h205 rfl (fun v42 => ?_)
          refine z_cv (a := 139) (b := 0) (l := [39, 3, 12, 49]) (as := [zi v41, zi v42]) (lsE := [zr a2, zi v41, zi v42, zU, zU, zU, zU, zU]) (st' := [zi v40]) (val := fun p => some (zi p.1)) (mem := fun p => p.2) h205 rfl ⟨rfl, rfl, rfl, Nat.le_of_ble_eq_true rfl, Nat.le_of_ble_eq_true rfl, rfl⟩ (fun g1 => (t_qmd_bank X n K s1.2 a2 v41 v42 (by omega))) (fun p43 => ?_)
          refine z_iceq h205 rfl ?_ ?_
          · exact Rz.here fun _ q => q
          · refine z_iconst h205 rfl ?_
            exact z_zret h205 rfl (Or.inl rfl) (fun _ q => q)
        · rw [if_neg (show ¬ zw (zand v2 63) = 0 by omega), if_neg (show ¬ zw (zand v2 63) = 1 by omega), if_neg (show ¬ zw (zand v2 63) = 2 by omega), if_neg (show ¬ zw (zand v2 63) = 3 by omega), if_neg (show ¬ zw (zand v2 63) = 4 by omega), if_neg (show ¬ zw (zand v2 63) = 5 by omega), if_pos hq]
          refine ⟨204, by rw [hq]; rfl, ?_⟩
          show Rz X 205 (204, [zr (-1), zr a1, zr a2, zi s1.1], [], s1.2, K) _ _
          refine z_aload h205 rfl rfl (Or.inl rfl) (by omega) ?_
          refine z_aload h205 rfl rfl (Or.inl rfl) (by omega) ?_
          refine z_iload h205 rfl rfl (Or.inl rfl) ?_
          refine z_iconst h205 rfl ?_
          refine z_iadd h205 rfl ?_
          refine z_sald h205 rfl (fun v44 => ?_)
          refine z_aload h205 rfl rfl (Or.inl rfl) (by omega) ?_
          refine z_iload h205 rfl rfl (Or.inl rfl) ?_
          refine z_iconst h205 rfl ?_
          refine z_iadd h205 rfl ?_
          refine z_sald h205 rfl (fun v45 => ?_)
          refine z_aload h205 rfl rfl (Or.inl rfl) (by omega) ?_
          refine z_iload h205 rfl rfl (Or.inl rfl) ?_
          refine z_iconst h205 rfl ?_
          refine z_iadd h205 rfl ?_
          refine z_sald h205 rfl (fun v46 => ?_)
          refine z_aload h205 rfl rfl (Or.inl rfl) (by omega) ?_
          refine z_iload h205 rfl rfl (Or.inl rfl) ?_
          refine z_iconst h205 rfl ?_
          refine z_iadd h205 rfl ?_
          refine z_sald h205 rfl (fun v47 => ?_)
          refine z_aload h205 rfl rfl (Or.inl rfl) (by omega) ?_
          refine z_iload h205 rfl rfl (Or.inl rfl) ?_
          refine z_iconst h205 rfl ?_
          refine z_iadd h205 rfl ?_
          refine z_sald h205 rfl (fun v48 => ?_)
          refine z_cv (a := 95) (b := 0) (l := [40, 6, 11, 15]) (as := [zi v44, zi v45, zi v46, zi v47, zi v48]) (lsE := [zr a1, zi v44, zi v45, zi v46, zi v47, zi v48]) (st' := []) (val := fun p => some (zi p.1)) (mem := fun p => p.2) h205 rfl ⟨rfl, rfl, rfl, Nat.le_of_ble_eq_true rfl, Nat.le_of_ble_eq_true rfl, rfl⟩ (fun g1 => (t_qbs_cut X n K s1.2 a1 v44 v45 v46 v47 v48 (by omega))) (fun p49 => ?_)
          refine z_aload h205 rfl rfl (Or.inl rfl) (by omega) ?_
          refine z_aload h205 rfl rfl (Or.inl rfl) (by omega) ?_
          refine z_iload h205 rfl rfl (Or.inl rfl) ?_
          refine z_iconst h205 rfl ?_
          refine z_iadd h205 rfl ?_
          refine z_sald h205 rfl (fun v50 => ?_)
          refine z_aload h205 rfl rfl (Or.inl rfl) (by omega) ?_
          refine z_iload h205 rfl rfl (Or.inl rfl) ?_
          refine z_iconst h205 rfl ?_
          refine z_iadd h205 rfl ?_
          refine z_sald h205 rfl (fun v51 => ?_)
          refine z_aload h205 rfl rfl (Or.inl rfl) (by omega) ?_
          refine z_iload h205 rfl rfl (Or.inl rfl) ?_
          refine z_iconst h205 rfl ?_
          refine z_iadd h205 rfl ?_
          refine z_sald h205 rfl (fun v52 => ?_)
          refine z_aload h205 rfl rfl (Or.inl rfl) (by omega) ?_
          refine z_iload h205 rfl rfl (Or.inl rfl) ?_
          refine z_iconst h205 rfl ?_
          refine z_iadd h205 rfl ?_
          refine z_sald h205 rfl (fun v53 => ?_)
          refine z_aload h205 rfl rfl (Or.inl rfl) (by omega) ?_
          refine z_iload h205 rfl rfl (Or.inl rfl) ?_
          refine z_iconst h205 rfl ?_
          refine z_iadd h205 rfl ?_
          refine z_sald h205 rfl (fun v54 => ?_)
          refine z_cv (a := 145) (b := 0) (l := [44, 6, 12, 49]) (as := [zi v50, zi v51, zi v52, zi v53, zi v54]) (lsE := [zr a2, zi v50, zi v51, zi v52, zi v53, zi v54]) (st' := [zi p49.1]) (val := fun p => some (zi p.1)) (mem := fun p => p.2) h205 rfl ⟨rfl, rfl, rfl, Nat.le_of_ble_eq_true rfl, Nat.le_of_ble_eq_true rfl, rfl⟩ (fun g1 => (t_qmd_cut X n K p49.2 a2 v50 v51 v52 v53 v54 (by omega))) (fun p55 => ?_)
          refine z_iceq h205 rfl ?_ ?_
          · exact Rz.here fun _ q => q
          · refine z_iconst h205 rfl ?_
            exact z_zret h205 rfl (Or.inl rfl) (fun _ q => q)
        · rw [if_neg (show ¬ zw (zand v2 63) = 0 by omega), if_neg (show ¬ zw (zand v2 63) = 1 by omega), if_neg (show ¬ zw (zand v2 63) = 2 by omega), if_neg (show ¬ zw (zand v2 63) = 3 by omega), if_neg (show ¬ zw (zand v2 63) = 4 by omega), if_neg (show ¬ zw (zand v2 63) = 5 by omega), if_neg (show ¬ zw (zand v2 63) = 6 by omega), if_pos hq]
          refine ⟨261, by rw [hq]; rfl, ?_⟩
          show Rz X 205 (261, [zr (-1), zr a1, zr a2, zi s1.1], [], s1.2, K) _ _
          refine z_aload h205 rfl rfl (Or.inl rfl) (by omega) ?_
          refine z_aload h205 rfl rfl (Or.inl rfl) (by omega) ?_
          refine z_iload h205 rfl rfl (Or.inl rfl) ?_
          refine z_iconst h205 rfl ?_
          refine z_iadd h205 rfl ?_
          refine z_sald h205 rfl (fun v56 => ?_)
          refine z_aload h205 rfl rfl (Or.inl rfl) (by omega) ?_
          refine z_iload h205 rfl rfl (Or.inl rfl) ?_
          refine z_iconst h205 rfl ?_
          refine z_iadd h205 rfl ?_
          refine z_sald h205 rfl (fun v57 => ?_)
          refine z_aload h205 rfl rfl (Or.inl rfl) (by omega) ?_
          refine z_iload h205 rfl rfl (Or.inl rfl) ?_
          refine z_iconst h205 rfl ?_
          refine z_iadd h205 rfl ?_
          refine z_sald h205 rfl (fun v58 => ?_)
          refine z_aload h205 rfl rfl (Or.inl rfl) (by omega) ?_
          refine z_iload h205 rfl rfl (Or.inl rfl) ?_
          refine z_iconst h205 rfl ?_
          refine z_iadd h205 rfl ?_
          refine z_sald h205 rfl (fun v59 => ?_)
          refine z_cv (a := 96) (b := 0) (l := [45, 5, 11, 15]) (as := [zi v56, zi v57, zi v58, zi v59]) (lsE := [zr a1, zi v56, zi v57, zi v58, zi v59, zU, zU, zU, zU, zU, zU, zU, zU]) (st' := []) (val := fun p => some (zi p.1)) (mem := fun p => p.2) h205 rfl ⟨rfl, rfl, rfl, Nat.le_of_ble_eq_true rfl, Nat.le_of_ble_eq_true rfl, rfl⟩ (fun g1 => (t_qbs_cuts X n K s1.2 a1 v56 v57 v58 v59 (by omega))) (fun p60 => ?_)
          refine z_aload h205 rfl rfl (Or.inl rfl) (by omega) ?_
          refine z_aload h205 rfl rfl (Or.inl rfl) (by omega) ?_
          refine z_iload h205 rfl rfl (Or.inl rfl) ?_
          refine z_iconst h205 rfl ?_
          refine z_iadd h205 rfl ?_
          refine z_sald h205 rfl (fun v61 => ?_)
          refine z_aload h205 rfl rfl (Or.inl rfl) (by omega) ?_
          refine z_iload h205 rfl rfl (Or.inl rfl) ?_
          refine z_iconst h205 rfl ?_
          refine z_iadd h205 rfl ?_
          refine z_sald h205 rfl (fun v62 => ?_)
          refine z_aload h205 rfl rfl (Or.inl rfl) (by omega) ?_
          refine z_iload h205 rfl rfl (Or.inl rfl) ?_
          refine z_iconst h205 rfl ?_
          refine z_iadd h205 rfl ?_
          refine z_sald h205 rfl (fun v63 => ?_)
          refine z_aload h205 rfl rfl (Or.inl rfl) (by omega) ?_
          refine z_iload h205 rfl rfl (Or.inl rfl) ?_
          refine z_iconst h205 rfl ?_
          refine z_iadd h205 rfl ?_
          refine z_sald h205 rfl (fun v64 => ?_)
          refine z_cv (a := 146) (b := 0) (l := [49, 5, 12, 49]) (as := [zi v61, zi v62, zi v63, zi v64]) (lsE := [zr a2, zi v61, zi v62, zi v63, zi v64, zU, zU, zU, zU, zU, zU, zU, zU]) (st' := [zi p60.1]) (val := fun p => some (zi p.1)) (mem := fun p => p.2) h205 rfl ⟨rfl, rfl, rfl, Nat.le_of_ble_eq_true rfl, Nat.le_of_ble_eq_true rfl, rfl⟩ (fun g1 => (t_qmd_cuts X n K p60.2 a2 v61 v62 v63 v64 (by omega))) (fun p65 => ?_)
          refine z_iceq h205 rfl ?_ ?_
          · exact Rz.here fun _ q => q
          · refine z_iconst h205 rfl ?_
            exact z_zret h205 rfl (Or.inl rfl) (fun _ q => q)
        · rw [if_neg (show ¬ zw (zand v2 63) = 0 by omega), if_neg (show ¬ zw (zand v2 63) = 1 by omega), if_neg (show ¬ zw (zand v2 63) = 2 by omega), if_neg (show ¬ zw (zand v2 63) = 3 by omega), if_neg (show ¬ zw (zand v2 63) = 4 by omega), if_neg (show ¬ zw (zand v2 63) = 5 by omega), if_neg (show ¬ zw (zand v2 63) = 6 by omega), if_neg (show ¬ zw (zand v2 63) = 7 by omega), if_pos hq]
          refine ⟨308, by rw [hq]; rfl, ?_⟩
          show Rz X 205 (308, [zr (-1), zr a1, zr a2, zi s1.1], [], s1.2, K) _ _
          refine z_aload h205 rfl rfl (Or.inl rfl) (by omega) ?_
          refine z_aload h205 rfl rfl (Or.inl rfl) (by omega) ?_
          refine z_iload h205 rfl rfl (Or.inl rfl) ?_
          refine z_iconst h205 rfl ?_
          refine z_iadd h205 rfl ?_
          refine z_sald h205 rfl (fun v66 => ?_)
          refine z_aload h205 rfl rfl (Or.inl rfl) (by omega) ?_
          refine z_iload h205 rfl rfl (Or.inl rfl) ?_
          refine z_iconst h205 rfl ?_
          refine z_iadd h205 rfl ?_
          refine z_sald h205 rfl (fun v67 => ?_)
          refine z_aload h205 rfl rfl (Or.inl rfl) (by omega) ?_
          refine z_iload h205 rfl rfl (Or.inl rfl) ?_
          refine z_iconst h205 rfl ?_
          refine z_iadd h205 rfl ?_
          refine z_sald h205 rfl (fun v68 => ?_)
          refine z_cv (a := 97) (b := 0) (l := [50, 4, 11, 15]) (as := [zi v66, zi v67, zi v68]) (lsE := [zr a1, zi v66, zi v67, zi v68]) (st' := []) (val := fun p => some (zi p.1)) (mem := fun p => p.2) h205 rfl ⟨rfl, rfl, rfl, Nat.le_of_ble_eq_true rfl, Nat.le_of_ble_eq_true rfl, rfl⟩ (fun g1 => (t_qbs_wish X K s1.2 a1 v66 v67 v68 (by omega))) (fun p69 => ?_)
          refine z_aload h205 rfl rfl (Or.inl rfl) (by omega) ?_
          refine z_aload h205 rfl rfl (Or.inl rfl) (by omega) ?_
          refine z_iload h205 rfl rfl (Or.inl rfl) ?_
          refine z_iconst h205 rfl ?_
          refine z_iadd h205 rfl ?_
          refine z_sald h205 rfl (fun v70 => ?_)
          refine z_aload h205 rfl rfl (Or.inl rfl) (by omega) ?_
          refine z_iload h205 rfl rfl (Or.inl rfl) ?_
          refine z_iconst h205 rfl ?_
          refine z_iadd h205 rfl ?_
          refine z_sald h205 rfl (fun v71 => ?_)
          refine z_aload h205 rfl rfl (Or.inl rfl) (by omega) ?_
          refine z_iload h205 rfl rfl (Or.inl rfl) ?_
          refine z_iconst h205 rfl ?_
          refine z_iadd h205 rfl ?_
          refine z_sald h205 rfl (fun v72 => ?_)
          refine z_cv (a := 147) (b := 0) (l := [53, 4, 12, 49]) (as := [zi v70, zi v71, zi v72]) (lsE := [zr a2, zi v70, zi v71, zi v72]) (st' := [zi p69.1]) (val := fun p => some (zi p.1)) (mem := fun p => p.2) h205 rfl ⟨rfl, rfl, rfl, Nat.le_of_ble_eq_true rfl, Nat.le_of_ble_eq_true rfl, rfl⟩ (fun g1 => (t_qmd_wish X K p69.2 a2 v70 v71 v72 (by omega))) (fun p73 => ?_)
          refine z_iceq h205 rfl ?_ ?_
          · exact Rz.here fun _ q => q
          · refine z_iconst h205 rfl ?_
            exact z_zret h205 rfl (Or.inl rfl) (fun _ q => q)
        · rw [if_neg (show ¬ zw (zand v2 63) = 0 by omega), if_neg (show ¬ zw (zand v2 63) = 1 by omega), if_neg (show ¬ zw (zand v2 63) = 2 by omega), if_neg (show ¬ zw (zand v2 63) = 3 by omega), if_neg (show ¬ zw (zand v2 63) = 4 by omega), if_neg (show ¬ zw (zand v2 63) = 5 by omega), if_neg (show ¬ zw (zand v2 63) = 6 by omega), if_neg (show ¬ zw (zand v2 63) = 7 by omega), if_neg (show ¬ zw (zand v2 63) = 8 by omega), if_pos hq]
          refine ⟨345, by rw [hq]; rfl, ?_⟩
          show Rz X 205 (345, [zr (-1), zr a1, zr a2, zi s1.1], [], s1.2, K) _ _
          refine z_aload h205 rfl rfl (Or.inl rfl) (by omega) ?_
          refine z_cv (a := 98) (b := 0) (l := [54, 1, 11, 15]) (as := []) (lsE := [zr a1, zU]) (st' := []) (val := fun p => some (zi p.1)) (mem := fun p => p.2) h205 rfl ⟨rfl, rfl, rfl, Nat.le_of_ble_eq_true rfl, Nat.le_of_ble_eq_true rfl, rfl⟩ (fun g1 => (t_qbs_forget X K s1.2 a1 (by omega))) (fun p74 => ?_)
          refine z_aload h205 rfl rfl (Or.inl rfl) (by omega) ?_
          refine z_cv (a := 148) (b := 0) (l := [58, 1, 12, 49]) (as := []) (lsE := [zr a2, zU]) (st' := [zi p74.1]) (val := fun p => some (zi p.1)) (mem := fun p => p.2) h205 rfl ⟨rfl, rfl, rfl, Nat.le_of_ble_eq_true rfl, Nat.le_of_ble_eq_true rfl, rfl⟩ (fun g1 => (t_qmd_forget X K p74.2 a2 (by omega))) (fun p75 => ?_)
          refine z_iceq h205 rfl ?_ ?_
          · exact Rz.here fun _ q => q
          · refine z_iconst h205 rfl ?_
            exact z_zret h205 rfl (Or.inl rfl) (fun _ q => q)
        · rw [if_neg (show ¬ zw (zand v2 63) = 0 by omega), if_neg (show ¬ zw (zand v2 63) = 1 by omega), if_neg (show ¬ zw (zand v2 63) = 2 by omega), if_neg (show ¬ zw (zand v2 63) = 3 by omega), if_neg (show ¬ zw (zand v2 63) = 4 by omega), if_neg (show ¬ zw (zand v2 63) = 5 by omega), if_neg (show ¬ zw (zand v2 63) = 6 by omega), if_neg (show ¬ zw (zand v2 63) = 7 by omega), if_neg (show ¬ zw (zand v2 63) = 8 by omega), if_neg (show ¬ zw (zand v2 63) = 9 by omega), if_pos hq]
          refine ⟨352, by rw [hq]; rfl, ?_⟩
          show Rz X 205 (352, [zr (-1), zr a1, zr a2, zi s1.1], [], s1.2, K) _ _
          refine z_aload h205 rfl rfl (Or.inl rfl) (by omega) ?_
          refine z_cv (a := 99) (b := 0) (l := [59, 1, 11, 15]) (as := []) (lsE := [zr a1]) (st' := []) (val := fun p => some (zi p)) (mem := fun _ => s1.2) h205 rfl ⟨rfl, rfl, rfl, Nat.le_of_ble_eq_true rfl, Nat.le_of_ble_eq_true rfl, rfl⟩ (fun g1 => (t_qbs_granted X n K s1.2 a1 (by omega))) (fun v76 => ?_)
          refine z_aload h205 rfl rfl (Or.inl rfl) (by omega) ?_
          refine z_cv (a := 151) (b := 0) (l := [62, 1, 12, 49]) (as := []) (lsE := [zr a2, zU, zU]) (st' := [zi v76]) (val := fun p => some (zi p.1)) (mem := fun p => p.2) h205 rfl ⟨rfl, rfl, rfl, Nat.le_of_ble_eq_true rfl, Nat.le_of_ble_eq_true rfl, rfl⟩ (fun g1 => (t_qmd_granted X n K s1.2 a2 (by omega))) (fun p77 => ?_)
          refine z_iceq h205 rfl ?_ ?_
          · exact Rz.here fun _ q => q
          · refine z_iconst h205 rfl ?_
            exact z_zret h205 rfl (Or.inl rfl) (fun _ q => q)
        · rw [if_neg (show ¬ zw (zand v2 63) = 0 by omega), if_neg (show ¬ zw (zand v2 63) = 1 by omega), if_neg (show ¬ zw (zand v2 63) = 2 by omega), if_neg (show ¬ zw (zand v2 63) = 3 by omega), if_neg (show ¬ zw (zand v2 63) = 4 by omega), if_neg (show ¬ zw (zand v2 63) = 5 by omega), if_neg (show ¬ zw (zand v2 63) = 6 by omega), if_neg (show ¬ zw (zand v2 63) = 7 by omega), if_neg (show ¬ zw (zand v2 63) = 8 by omega), if_neg (show ¬ zw (zand v2 63) = 9 by omega), if_neg (show ¬ zw (zand v2 63) = 10 by omega), if_pos hq]
          refine ⟨359, by rw [hq]; rfl, ?_⟩
          show Rz X 205 (359, [zr (-1), zr a1, zr a2, zi s1.1], [], s1.2, K) _ _
          refine z_aload h205 rfl rfl (Or.inl rfl) (by omega) ?_
          refine z_aload h205 rfl rfl (Or.inl rfl) (by omega) ?_
          refine z_iload h205 rfl rfl (Or.inl rfl) ?_
          refine z_iconst h205 rfl ?_
          refine z_iadd h205 rfl ?_
          refine z_sald h205 rfl (fun v78 => ?_)
          refine z_aload h205 rfl rfl (Or.inl rfl) (by omega) ?_
          refine z_iload h205 rfl rfl (Or.inl rfl) ?_
          refine z_iconst h205 rfl ?_
          refine z_iadd h205 rfl ?_
          refine z_sald h205 rfl (fun v79 => ?_)
          refine z_cv (a := 100) (b := 0) (l := [63, 3, 11, 15]) (as := [zi v78, zi v79]) (lsE := [zr a1, zi v78, zi v79, zU, zU]) (st' := []) (val := fun p => some (zi p.1)) (mem := fun p => p.2) h205 rfl ⟨rfl, rfl, rfl, Nat.le_of_ble_eq_true rfl, Nat.le_of_ble_eq_true rfl, rfl⟩ (fun g1 => (t_qbs_fewest X n K s1.2 a1 v78 v79 (by omega))) (fun p80 => ?_)
          refine z_aload h205 rfl rfl (Or.inl rfl) (by omega) ?_
          refine z_aload h205 rfl rfl (Or.inl rfl) (by omega) ?_
          refine z_iload h205 rfl rfl (Or.inl rfl) ?_
          refine z_iconst h205 rfl ?_
          refine z_iadd h205 rfl ?_
          refine z_sald h205 rfl (fun v81 => ?_)
          refine z_aload h205 rfl rfl (Or.inl rfl) (by omega) ?_
          refine z_iload h205 rfl rfl (Or.inl rfl) ?_
          refine z_iconst h205 rfl ?_
          refine z_iadd h205 rfl ?_
          refine z_sald h205 rfl (fun v82 => ?_)
          refine z_cv (a := 153) (b := 0) (l := [66, 3, 12, 49]) (as := [zi v81, zi v82]) (lsE := [zr a2, zi v81, zi v82, zU, zU, zU, zU]) (st' := [zi p80.1]) (val := fun p => some (zi p.1)) (mem := fun p => p.2) h205 rfl ⟨rfl, rfl, rfl, Nat.le_of_ble_eq_true rfl, Nat.le_of_ble_eq_true rfl, rfl⟩ (fun g1 => (t_qmd_fewest X n K p80.2 a2 v81 v82 (by omega))) (fun p83 => ?_)
          refine z_iceq h205 rfl ?_ ?_
          · exact Rz.here fun _ q => q
          · refine z_iconst h205 rfl ?_
            exact z_zret h205 rfl (Or.inl rfl) (fun _ q => q)
        · rw [if_neg (show ¬ zw (zand v2 63) = 0 by omega), if_neg (show ¬ zw (zand v2 63) = 1 by omega), if_neg (show ¬ zw (zand v2 63) = 2 by omega), if_neg (show ¬ zw (zand v2 63) = 3 by omega), if_neg (show ¬ zw (zand v2 63) = 4 by omega), if_neg (show ¬ zw (zand v2 63) = 5 by omega), if_neg (show ¬ zw (zand v2 63) = 6 by omega), if_neg (show ¬ zw (zand v2 63) = 7 by omega), if_neg (show ¬ zw (zand v2 63) = 8 by omega), if_neg (show ¬ zw (zand v2 63) = 9 by omega), if_neg (show ¬ zw (zand v2 63) = 10 by omega), if_neg (show ¬ zw (zand v2 63) = 11 by omega), if_pos hq]
          refine ⟨386, by rw [hq]; rfl, ?_⟩
          show Rz X 205 (386, [zr (-1), zr a1, zr a2, zi s1.1], [], s1.2, K) _ _
          refine z_aload h205 rfl rfl (Or.inl rfl) (by omega) ?_
          refine z_cv (a := 101) (b := 0) (l := [67, 1, 11, 15]) (as := []) (lsE := [zr a1]) (st' := []) (val := fun p => some (zi p)) (mem := fun _ => s1.2) h205 rfl ⟨rfl, rfl, rfl, Nat.le_of_ble_eq_true rfl, Nat.le_of_ble_eq_true rfl, rfl⟩ (fun g1 => (t_qbs_bound X n K s1.2 a1 (by omega))) (fun v84 => ?_)
          refine z_aload h205 rfl rfl (Or.inl rfl) (by omega) ?_
          refine z_cv (a := 154) (b := 0) (l := [70, 1, 12, 49]) (as := []) (lsE := [zr a2, zU, zU, zU, zU]) (st' := [zi v84]) (val := fun p => some (zi p)) (mem := fun _ => s1.2) h205 rfl ⟨rfl, rfl, rfl, Nat.le_of_ble_eq_true rfl, Nat.le_of_ble_eq_true rfl, rfl⟩ (fun g1 => (t_qmd_bound X n K s1.2 a2 (by omega))) (fun v85 => ?_)
          refine z_iceq h205 rfl ?_ ?_
          · exact Rz.here fun _ q => q
          · refine z_iconst h205 rfl ?_
            exact z_zret h205 rfl (Or.inl rfl) (fun _ q => q)
        · rw [if_neg (show ¬ zw (zand v2 63) = 0 by omega), if_neg (show ¬ zw (zand v2 63) = 1 by omega), if_neg (show ¬ zw (zand v2 63) = 2 by omega), if_neg (show ¬ zw (zand v2 63) = 3 by omega), if_neg (show ¬ zw (zand v2 63) = 4 by omega), if_neg (show ¬ zw (zand v2 63) = 5 by omega), if_neg (show ¬ zw (zand v2 63) = 6 by omega), if_neg (show ¬ zw (zand v2 63) = 7 by omega), if_neg (show ¬ zw (zand v2 63) = 8 by omega), if_neg (show ¬ zw (zand v2 63) = 9 by omega), if_neg (show ¬ zw (zand v2 63) = 10 by omega), if_neg (show ¬ zw (zand v2 63) = 11 by omega), if_neg (show ¬ zw (zand v2 63) = 12 by omega), if_pos hq]
          refine ⟨393, by rw [hq]; rfl, ?_⟩
          show Rz X 205 (393, [zr (-1), zr a1, zr a2, zi s1.1], [], s1.2, K) _ _
          refine z_aload h205 rfl rfl (Or.inl rfl) (by omega) ?_
          refine z_cv (a := 102) (b := 0) (l := [71, 1, 11, 15]) (as := []) (lsE := [zr a1, zU]) (st' := []) (val := fun p => some (zi p.1)) (mem := fun p => p.2) h205 rfl ⟨rfl, rfl, rfl, Nat.le_of_ble_eq_true rfl, Nat.le_of_ble_eq_true rfl, rfl⟩ (fun g1 => (t_qbs_free X n K s1.2 a1 (by omega))) (fun p86 => ?_)
          refine z_aload h205 rfl rfl (Or.inl rfl) (by omega) ?_
          refine z_cv (a := 160) (b := 0) (l := [74, 1, 12, 49]) (as := []) (lsE := [zr a2, zU, zU]) (st' := [zi p86.1]) (val := fun p => some (zi p.1)) (mem := fun p => p.2) h205 rfl ⟨rfl, rfl, rfl, Nat.le_of_ble_eq_true rfl, Nat.le_of_ble_eq_true rfl, rfl⟩ (fun g1 => (t_qmd_free X n K p86.2 a2 (by omega))) (fun p87 => ?_)
          refine z_iceq h205 rfl ?_ ?_
          · exact Rz.here fun _ q => q
          · refine z_iconst h205 rfl ?_
            exact z_zret h205 rfl (Or.inl rfl) (fun _ q => q)
        · rw [if_neg (show ¬ zw (zand v2 63) = 0 by omega), if_neg (show ¬ zw (zand v2 63) = 1 by omega), if_neg (show ¬ zw (zand v2 63) = 2 by omega), if_neg (show ¬ zw (zand v2 63) = 3 by omega), if_neg (show ¬ zw (zand v2 63) = 4 by omega), if_neg (show ¬ zw (zand v2 63) = 5 by omega), if_neg (show ¬ zw (zand v2 63) = 6 by omega), if_neg (show ¬ zw (zand v2 63) = 7 by omega), if_neg (show ¬ zw (zand v2 63) = 8 by omega), if_neg (show ¬ zw (zand v2 63) = 9 by omega), if_neg (show ¬ zw (zand v2 63) = 10 by omega), if_neg (show ¬ zw (zand v2 63) = 11 by omega), if_neg (show ¬ zw (zand v2 63) = 12 by omega), if_neg (show ¬ zw (zand v2 63) = 13 by omega), if_pos hq]
          refine ⟨400, by rw [hq]; rfl, ?_⟩
          show Rz X 205 (400, [zr (-1), zr a1, zr a2, zi s1.1], [], s1.2, K) _ _
          refine z_aload h205 rfl rfl (Or.inl rfl) (by omega) ?_
          refine z_cv (a := 103) (b := 0) (l := [75, 1, 11, 15]) (as := []) (lsE := [zr a1, zU, zU]) (st' := []) (val := fun p => some (zi p.1)) (mem := fun p => p.2) h205 rfl ⟨rfl, rfl, rfl, Nat.le_of_ble_eq_true rfl, Nat.le_of_ble_eq_true rfl, rfl⟩ (fun g1 => (t_qbs_freeBanks X n K s1.2 a1 (by omega))) (fun p88 => ?_)
          refine z_aload h205 rfl rfl (Or.inl rfl) (by omega) ?_
          refine z_cv (a := 161) (b := 0) (l := [78, 1, 12, 49]) (as := []) (lsE := [zr a2, zU, zU]) (st' := [zi p88.1]) (val := fun p => some (zi p.1)) (mem := fun p => p.2) h205 rfl ⟨rfl, rfl, rfl, Nat.le_of_ble_eq_true rfl, Nat.le_of_ble_eq_true rfl, rfl⟩ (fun g1 => (t_qmd_freeBanks X n K p88.2 a2 (by omega))) (fun p89 => ?_)
          refine z_iceq h205 rfl ?_ ?_
          · exact Rz.here fun _ q => q
          · refine z_iconst h205 rfl ?_
            exact z_zret h205 rfl (Or.inl rfl) (fun _ q => q)
        · rw [if_neg (show ¬ zw (zand v2 63) = 0 by omega), if_neg (show ¬ zw (zand v2 63) = 1 by omega), if_neg (show ¬ zw (zand v2 63) = 2 by omega), if_neg (show ¬ zw (zand v2 63) = 3 by omega), if_neg (show ¬ zw (zand v2 63) = 4 by omega), if_neg (show ¬ zw (zand v2 63) = 5 by omega), if_neg (show ¬ zw (zand v2 63) = 6 by omega), if_neg (show ¬ zw (zand v2 63) = 7 by omega), if_neg (show ¬ zw (zand v2 63) = 8 by omega), if_neg (show ¬ zw (zand v2 63) = 9 by omega), if_neg (show ¬ zw (zand v2 63) = 10 by omega), if_neg (show ¬ zw (zand v2 63) = 11 by omega), if_neg (show ¬ zw (zand v2 63) = 12 by omega), if_neg (show ¬ zw (zand v2 63) = 13 by omega), if_neg (show ¬ zw (zand v2 63) = 14 by omega), if_pos hq]
          refine ⟨407, by rw [hq]; rfl, ?_⟩
          show Rz X 205 (407, [zr (-1), zr a1, zr a2, zi s1.1], [], s1.2, K) _ _
          refine z_aload h205 rfl rfl (Or.inl rfl) (by omega) ?_
          refine z_aload h205 rfl rfl (Or.inl rfl) (by omega) ?_
          refine z_iload h205 rfl rfl (Or.inl rfl) ?_
          refine z_iconst h205 rfl ?_
          refine z_iadd h205 rfl ?_
          refine z_sald h205 rfl (fun v90 => ?_)
          refine z_cv (a := 104) (b := 0) (l := [79, 2, 11, 15]) (as := [zi v90]) (lsE := [zr a1, zi v90, zU]) (st' := []) (val := fun p => some (zi p.1)) (mem := fun p => p.2) h205 rfl ⟨rfl, rfl, rfl, Nat.le_of_ble_eq_true rfl, Nat.le_of_ble_eq_true rfl, rfl⟩ (fun g1 => (t_qbs_rest X K s1.2 a1 v90 (by omega))) (fun p91 => ?_)
          refine z_aload h205 rfl rfl (Or.inl rfl) (by omega) ?_
          refine z_aload h205 rfl rfl (Or.inl rfl) (by omega) ?_
          refine z_iload h205 rfl rfl (Or.inl rfl) ?_
          refine z_iconst h205 rfl ?_
          refine z_iadd h205 rfl ?_
          refine z_sald h205 rfl (fun v92 => ?_)
          refine z_cv (a := 162) (b := 0) (l := [82, 2, 12, 49]) (as := [zi v92]) (lsE := [zr a2, zi v92, zU]) (st' := [zi p91.1]) (val := fun p => some (zi p.1)) (mem := fun p => p.2) h205 rfl ⟨rfl, rfl, rfl, Nat.le_of_ble_eq_true rfl, Nat.le_of_ble_eq_true rfl, rfl⟩ (fun g1 => (t_qmd_rest X K p91.2 a2 v92 (by omega))) (fun p93 => ?_)
          refine z_iceq h205 rfl ?_ ?_
          · exact Rz.here fun _ q => q
          · refine z_iconst h205 rfl ?_
            exact z_zret h205 rfl (Or.inl rfl) (fun _ q => q)
        · rw [if_neg (show ¬ zw (zand v2 63) = 0 by omega), if_neg (show ¬ zw (zand v2 63) = 1 by omega), if_neg (show ¬ zw (zand v2 63) = 2 by omega), if_neg (show ¬ zw (zand v2 63) = 3 by omega), if_neg (show ¬ zw (zand v2 63) = 4 by omega), if_neg (show ¬ zw (zand v2 63) = 5 by omega), if_neg (show ¬ zw (zand v2 63) = 6 by omega), if_neg (show ¬ zw (zand v2 63) = 7 by omega), if_neg (show ¬ zw (zand v2 63) = 8 by omega), if_neg (show ¬ zw (zand v2 63) = 9 by omega), if_neg (show ¬ zw (zand v2 63) = 10 by omega), if_neg (show ¬ zw (zand v2 63) = 11 by omega), if_neg (show ¬ zw (zand v2 63) = 12 by omega), if_neg (show ¬ zw (zand v2 63) = 13 by omega), if_neg (show ¬ zw (zand v2 63) = 14 by omega), if_neg (show ¬ zw (zand v2 63) = 15 by omega), if_pos hq]
          refine ⟨424, by rw [hq]; rfl, ?_⟩
          show Rz X 205 (424, [zr (-1), zr a1, zr a2, zi s1.1], [], s1.2, K) _ _
          refine z_aload h205 rfl rfl (Or.inl rfl) (by omega) ?_
          refine z_aload h205 rfl rfl (Or.inl rfl) (by omega) ?_
          refine z_iload h205 rfl rfl (Or.inl rfl) ?_
          refine z_iconst h205 rfl ?_
          refine z_iadd h205 rfl ?_
          refine z_sald h205 rfl (fun v94 => ?_)
          refine z_aload h205 rfl rfl (Or.inl rfl) (by omega) ?_
          refine z_iload h205 rfl rfl (Or.inl rfl) ?_
          refine z_iconst h205 rfl ?_
          refine z_iadd h205 rfl ?_
          refine z_sald h205 rfl (fun v95 => ?_)
          refine z_aload h205 rfl rfl (Or.inl rfl) (by omega) ?_
          refine z_iload h205 rfl rfl (Or.inl rfl) ?_
          refine z_iconst h205 rfl ?_
          refine z_iadd h205 rfl ?_
          refine z_sald h205 rfl (fun v96 => ?_)
          refine z_cv (a := 105) (b := 0) (l := [83, 4, 11, 15]) (as := [zi v94, zi v95, zi v96]) (lsE := [zr a1, zi v94, zi v95, zi v96]) (st' := []) (val := fun p => some (zi p.1)) (mem := fun p => p.2) h205 rfl ⟨rfl, rfl, rfl, Nat.le_of_ble_eq_true rfl, Nat.le_of_ble_eq_true rfl, rfl⟩ (fun g1 => (t_qbs_inOrder X n K s1.2 a1 v94 v95 v96 (by omega))) (fun p97 => ?_)
          refine z_aload h205 rfl rfl (Or.inl rfl) (by omega) ?_
          refine z_aload h205 rfl rfl (Or.inl rfl) (by omega) ?_
          refine z_iload h205 rfl rfl (Or.inl rfl) ?_
          refine z_iconst h205 rfl ?_
          refine z_iadd h205 rfl ?_
          refine z_sald h205 rfl (fun v98 => ?_)
          refine z_aload h205 rfl rfl (Or.inl rfl) (by omega) ?_
          refine z_iload h205 rfl rfl (Or.inl rfl) ?_
          refine z_iconst h205 rfl ?_
          refine z_iadd h205 rfl ?_
          refine z_sald h205 rfl (fun v99 => ?_)
          refine z_aload h205 rfl rfl (Or.inl rfl) (by omega) ?_
          refine z_iload h205 rfl rfl (Or.inl rfl) ?_
          refine z_iconst h205 rfl ?_
          refine z_iadd h205 rfl ?_
          refine z_sald h205 rfl (fun v100 => ?_)
          refine z_cv (a := 168) (b := 0) (l := [86, 4, 12, 49]) (as := [zi v98, zi v99, zi v100]) (lsE := [zr a2, zi v98, zi v99, zi v100]) (st' := [zi p97.1]) (val := fun p => some (zi p.1)) (mem := fun p => p.2) h205 rfl ⟨rfl, rfl, rfl, Nat.le_of_ble_eq_true rfl, Nat.le_of_ble_eq_true rfl, rfl⟩ (fun g1 => (t_qmd_inOrder X n K p97.2 a2 v98 v99 v100 (by omega))) (fun p101 => ?_)
          refine z_iceq h205 rfl ?_ ?_
          · exact Rz.here fun _ q => q
          · refine z_iconst h205 rfl ?_
            exact z_zret h205 rfl (Or.inl rfl) (fun _ q => q)
        · rw [if_neg (show ¬ zw (zand v2 63) = 0 by omega), if_neg (show ¬ zw (zand v2 63) = 1 by omega), if_neg (show ¬ zw (zand v2 63) = 2 by omega), if_neg (show ¬ zw (zand v2 63) = 3 by omega), if_neg (show ¬ zw (zand v2 63) = 4 by omega), if_neg (show ¬ zw (zand v2 63) = 5 by omega), if_neg (show ¬ zw (zand v2 63) = 6 by omega), if_neg (show ¬ zw (zand v2 63) = 7 by omega), if_neg (show ¬ zw (zand v2 63) = 8 by omega), if_neg (show ¬ zw (zand v2 63) = 9 by omega), if_neg (show ¬ zw (zand v2 63) = 10 by omega), if_neg (show ¬ zw (zand v2 63) = 11 by omega), if_neg (show ¬ zw (zand v2 63) = 12 by omega), if_neg (show ¬ zw (zand v2 63) = 13 by omega), if_neg (show ¬ zw (zand v2 63) = 14 by omega), if_neg (show ¬ zw (zand v2 63) = 15 by omega), if_neg (show ¬ zw (zand v2 63) = 16 by omega), if_pos hq]
          refine ⟨461, by rw [hq]; rfl, ?_⟩
          show Rz X 205 (461, [zr (-1), zr a1, zr a2, zi s1.1], [], s1.2, K) _ _
          refine z_aload h205 rfl rfl (Or.inl rfl) (by omega) ?_
          refine z_aload h205 rfl rfl (Or.inl rfl) (by omega) ?_
          refine z_iload h205 rfl rfl (Or.inl rfl) ?_
          refine z_iconst h205 rfl ?_
          refine z_iadd h205 rfl ?_
          refine z_sald h205 rfl (fun v102 => ?_)
          refine z_aload h205 rfl rfl (Or.inl rfl) (by omega) ?_
          refine z_iload h205 rfl rfl (Or.inl rfl) ?_
          refine z_iconst h205 rfl ?_
          refine z_iadd h205 rfl ?_
          refine z_sald h205 rfl (fun v103 => ?_)
          refine z_aload h205 rfl rfl (Or.inl rfl) (by omega) ?_
          refine z_iload h205 rfl rfl (Or.inl rfl) ?_
          refine z_iconst h205 rfl ?_
          refine z_iadd h205 rfl ?_
          refine z_sald h205 rfl (fun v104 => ?_)
          refine z_cv (a := 106) (b := 0) (l := [87, 4, 11, 15]) (as := [zi v102, zi v103, zi v104]) (lsE := [zr a1, zi v102, zi v103, zi v104]) (st' := []) (val := fun p => some (zi p.1)) (mem := fun p => p.2) h205 rfl ⟨rfl, rfl, rfl, Nat.le_of_ble_eq_true rfl, Nat.le_of_ble_eq_true rfl, rfl⟩ (fun g1 => (t_qbs_beat X n K s1.2 a1 v102 v103 v104 (by omega))) (fun p105 => ?_)
          refine z_aload h205 rfl rfl (Or.inl rfl) (by omega) ?_
          refine z_aload h205 rfl rfl (Or.inl rfl) (by omega) ?_
          refine z_iload h205 rfl rfl (Or.inl rfl) ?_
          refine z_iconst h205 rfl ?_
          refine z_iadd h205 rfl ?_
          refine z_sald h205 rfl (fun v106 => ?_)
          refine z_aload h205 rfl rfl (Or.inl rfl) (by omega) ?_
          refine z_iload h205 rfl rfl (Or.inl rfl) ?_
          refine z_iconst h205 rfl ?_
          refine z_iadd h205 rfl ?_
          refine z_sald h205 rfl (fun v107 => ?_)
          refine z_aload h205 rfl rfl (Or.inl rfl) (by omega) ?_
          refine z_iload h205 rfl rfl (Or.inl rfl) ?_
          refine z_iconst h205 rfl ?_
          refine z_iadd h205 rfl ?_
          refine z_sald h205 rfl (fun v108 => ?_)
          refine z_cv (a := 169) (b := 0) (l := [90, 4, 12, 49]) (as := [zi v106, zi v107, zi v108]) (lsE := [zr a2, zi v106, zi v107, zi v108]) (st' := [zi p105.1]) (val := fun p => some (zi p.1)) (mem := fun p => p.2) h205 rfl ⟨rfl, rfl, rfl, Nat.le_of_ble_eq_true rfl, Nat.le_of_ble_eq_true rfl, rfl⟩ (fun g1 => (t_qmd_beat X n K p105.2 a2 v106 v107 v108 (by omega))) (fun p109 => ?_)
          refine z_iceq h205 rfl ?_ ?_
          · exact Rz.here fun _ q => q
          · refine z_iconst h205 rfl ?_
            exact z_zret h205 rfl (Or.inl rfl) (fun _ q => q)
        · rw [if_neg (show ¬ zw (zand v2 63) = 0 by omega), if_neg (show ¬ zw (zand v2 63) = 1 by omega), if_neg (show ¬ zw (zand v2 63) = 2 by omega), if_neg (show ¬ zw (zand v2 63) = 3 by omega), if_neg (show ¬ zw (zand v2 63) = 4 by omega), if_neg (show ¬ zw (zand v2 63) = 5 by omega), if_neg (show ¬ zw (zand v2 63) = 6 by omega), if_neg (show ¬ zw (zand v2 63) = 7 by omega), if_neg (show ¬ zw (zand v2 63) = 8 by omega), if_neg (show ¬ zw (zand v2 63) = 9 by omega), if_neg (show ¬ zw (zand v2 63) = 10 by omega), if_neg (show ¬ zw (zand v2 63) = 11 by omega), if_neg (show ¬ zw (zand v2 63) = 12 by omega), if_neg (show ¬ zw (zand v2 63) = 13 by omega), if_neg (show ¬ zw (zand v2 63) = 14 by omega), if_neg (show ¬ zw (zand v2 63) = 15 by omega), if_neg (show ¬ zw (zand v2 63) = 16 by omega), if_neg (show ¬ zw (zand v2 63) = 17 by omega), if_pos hq]
          refine ⟨498, by rw [hq]; rfl, ?_⟩
          show Rz X 205 (498, [zr (-1), zr a1, zr a2, zi s1.1], [], s1.2, K) _ _
          refine z_aload h205 rfl rfl (Or.inl rfl) (by omega) ?_
          refine z_aload h205 rfl rfl (Or.inl rfl) (by omega) ?_
          refine z_iload h205 rfl rfl (Or.inl rfl) ?_
          refine z_iconst h205 rfl ?_
          refine z_iadd h205 rfl ?_
          refine z_sald h205 rfl (fun v110 => ?_)
          refine z_aload h205 rfl rfl (Or.inl rfl) (by omega) ?_
          refine z_iload h205 rfl rfl (Or.inl rfl) ?_
          refine z_iconst h205 rfl ?_
          refine z_iadd h205 rfl ?_
          refine z_sald h205 rfl (fun v111 => ?_)
          refine z_aload h205 rfl rfl (Or.inl rfl) (by omega) ?_
          refine z_iload h205 rfl rfl (Or.inl rfl) ?_
          refine z_iconst h205 rfl ?_
          refine z_iadd h205 rfl ?_
          refine z_sald h205 rfl (fun v112 => ?_)
          refine z_aload h205 rfl rfl (Or.inl rfl) (by omega) ?_
          refine z_iload h205 rfl rfl (Or.inl rfl) ?_
          refine z_iconst h205 rfl ?_
          refine z_iadd h205 rfl ?_
          refine z_sald h205 rfl (fun v113 => ?_)
          refine z_aload h205 rfl rfl (Or.inl rfl) (by omega) ?_
          refine z_iload h205 rfl rfl (Or.inl rfl) ?_
          refine z_iconst h205 rfl ?_
          refine z_iadd h205 rfl ?_
          refine z_sald h205 rfl (fun v114 => ?_)
          refine z_cv (a := 107) (b := 0) (l := [91, 6, 11, 15]) (as := [zi v110, zi v111, zi v112, zi v113, zi v114]) (lsE := [zr a1, zi v110, zi v111, zi v112, zi v113, zi v114]) (st' := []) (val := fun p => some (zi p.1)) (mem := fun p => p.2) h205 rfl ⟨rfl, rfl, rfl, Nat.le_of_ble_eq_true rfl, Nat.le_of_ble_eq_true rfl, rfl⟩ (fun g1 => (t_qbs_queued X n K s1.2 a1 v110 v111 v112 v113 v114 (by omega))) (fun p115 => ?_)
          refine z_aload h205 rfl rfl (Or.inl rfl) (by omega) ?_
          refine z_aload h205 rfl rfl (Or.inl rfl) (by omega) ?_
          refine z_iload h205 rfl rfl (Or.inl rfl) ?_
          refine z_iconst h205 rfl ?_
          refine z_iadd h205 rfl ?_
          refine z_sald h205 rfl (fun v116 => ?_)
          refine z_aload h205 rfl rfl (Or.inl rfl) (by omega) ?_
          refine z_iload h205 rfl rfl (Or.inl rfl) ?_
          refine z_iconst h205 rfl ?_
          refine z_iadd h205 rfl ?_
          refine z_sald h205 rfl (fun v117 => ?_)
          refine z_aload h205 rfl rfl (Or.inl rfl) (by omega) ?_
          refine z_iload h205 rfl rfl (Or.inl rfl) ?_
          refine z_iconst h205 rfl ?_
          refine z_iadd h205 rfl ?_
          refine z_sald h205 rfl (fun v118 => ?_)
          refine z_aload h205 rfl rfl (Or.inl rfl) (by omega) ?_
          refine z_iload h205 rfl rfl (Or.inl rfl) ?_
          refine z_iconst h205 rfl ?_
          refine z_iadd h205 rfl ?_
          refine z_sald h205 rfl (fun v119 => ?_)
          refine z_aload h205 rfl rfl (Or.inl rfl) (by omega) ?_
          refine z_iload h205 rfl rfl (Or.inl rfl) ?_
          refine z_iconst h205 rfl ?_
          refine z_iadd h205 rfl ?_
          refine z_sald h205 rfl (fun v120 => ?_)
          refine z_cv (a := 170) (b := 0) (l := [94, 6, 12, 49]) (as := [zi v116, zi v117, zi v118, zi v119, zi v120]) (lsE := [zr a2, zi v116, zi v117, zi v118, zi v119, zi v120, zU, zU, zU, zU, zU, zU, zU]) (st' := [zi p115.1]) (val := fun p => some (zi p.1)) (mem := fun p => p.2) h205 rfl ⟨rfl, rfl, rfl, Nat.le_of_ble_eq_true rfl, Nat.le_of_ble_eq_true rfl, rfl⟩ (fun g1 => (t_qmd_queued X n K p115.2 a2 v116 v117 v118 v119 v120 (by omega))) (fun p121 => ?_)
          refine z_iceq h205 rfl ?_ ?_
          · exact Rz.here fun _ q => q
          · refine z_iconst h205 rfl ?_
            exact z_zret h205 rfl (Or.inl rfl) (fun _ q => q)
        · rw [if_neg (show ¬ zw (zand v2 63) = 0 by omega), if_neg (show ¬ zw (zand v2 63) = 1 by omega), if_neg (show ¬ zw (zand v2 63) = 2 by omega), if_neg (show ¬ zw (zand v2 63) = 3 by omega), if_neg (show ¬ zw (zand v2 63) = 4 by omega), if_neg (show ¬ zw (zand v2 63) = 5 by omega), if_neg (show ¬ zw (zand v2 63) = 6 by omega), if_neg (show ¬ zw (zand v2 63) = 7 by omega), if_neg (show ¬ zw (zand v2 63) = 8 by omega), if_neg (show ¬ zw (zand v2 63) = 9 by omega), if_neg (show ¬ zw (zand v2 63) = 10 by omega), if_neg (show ¬ zw (zand v2 63) = 11 by omega), if_neg (show ¬ zw (zand v2 63) = 12 by omega), if_neg (show ¬ zw (zand v2 63) = 13 by omega), if_neg (show ¬ zw (zand v2 63) = 14 by omega), if_neg (show ¬ zw (zand v2 63) = 15 by omega), if_neg (show ¬ zw (zand v2 63) = 16 by omega), if_neg (show ¬ zw (zand v2 63) = 17 by omega), if_neg (show ¬ zw (zand v2 63) = 18 by omega), if_pos hq]
          refine ⟨555, by rw [hq]; rfl, ?_⟩
          show Rz X 205 (555, [zr (-1), zr a1, zr a2, zi s1.1], [], s1.2, K) _ _
          refine z_aload h205 rfl rfl (Or.inl rfl) (by omega) ?_
          refine z_aload h205 rfl rfl (Or.inl rfl) (by omega) ?_
          refine z_iload h205 rfl rfl (Or.inl rfl) ?_
          refine z_iconst h205 rfl ?_
          refine z_iadd h205 rfl ?_
          refine z_sald h205 rfl (fun v122 => ?_)
          refine z_aload h205 rfl rfl (Or.inl rfl) (by omega) ?_
          refine z_iload h205 rfl rfl (Or.inl rfl) ?_
          refine z_iconst h205 rfl ?_
          refine z_iadd h205 rfl ?_
          refine z_sald h205 rfl (fun v123 => ?_)
          refine z_aload h205 rfl rfl (Or.inl rfl) (by omega) ?_
          refine z_iload h205 rfl rfl (Or.inl rfl) ?_
          refine z_iconst h205 rfl ?_
          refine z_iadd h205 rfl ?_
          refine z_sald h205 rfl (fun v124 => ?_)
          refine z_cv (a := 108) (b := 0) (l := [95, 4, 11, 15]) (as := [zi v122, zi v123, zi v124]) (lsE := [zr a1, zi v122, zi v123, zi v124]) (st' := []) (val := fun p => some (zi p.1)) (mem := fun p => p.2) h205 rfl ⟨rfl, rfl, rfl, Nat.le_of_ble_eq_true rfl, Nat.le_of_ble_eq_true rfl, rfl⟩ (fun g1 => (t_qbs_rate X n K s1.2 a1 v122 v123 v124 (by omega))) (fun p125 => ?_)
          refine z_aload h205 rfl rfl (Or.inl rfl) (by omega) ?_
          refine z_aload h205 rfl rfl (Or.inl rfl) (by omega) ?_
          refine z_iload h205 rfl rfl (Or.inl rfl) ?_
          refine z_iconst h205 rfl ?_
          refine z_iadd h205 rfl ?_
          refine z_sald h205 rfl (fun v126 => ?_)
          refine z_aload h205 rfl rfl (Or.inl rfl) (by omega) ?_
          refine z_iload h205 rfl rfl (Or.inl rfl) ?_
          refine z_iconst h205 rfl ?_
          refine z_iadd h205 rfl ?_
          refine z_sald h205 rfl (fun v127 => ?_)
          refine z_aload h205 rfl rfl (Or.inl rfl) (by omega) ?_
          refine z_iload h205 rfl rfl (Or.inl rfl) ?_
          refine z_iconst h205 rfl ?_
          refine z_iadd h205 rfl ?_
          refine z_sald h205 rfl (fun v128 => ?_)
          refine z_cv (a := 174) (b := 0) (l := [98, 4, 12, 49]) (as := [zi v126, zi v127, zi v128]) (lsE := [zr a2, zi v126, zi v127, zi v128]) (st' := [zi p125.1]) (val := fun p => some (zi p.1)) (mem := fun p => p.2) h205 rfl ⟨rfl, rfl, rfl, Nat.le_of_ble_eq_true rfl, Nat.le_of_ble_eq_true rfl, rfl⟩ (fun g1 => (t_qmd_rate X n K p125.2 a2 v126 v127 v128 (by omega))) (fun p129 => ?_)
          refine z_iceq h205 rfl ?_ ?_
          · exact Rz.here fun _ q => q
          · refine z_iconst h205 rfl ?_
            exact z_zret h205 rfl (Or.inl rfl) (fun _ q => q)
        · rw [if_neg (show ¬ zw (zand v2 63) = 0 by omega), if_neg (show ¬ zw (zand v2 63) = 1 by omega), if_neg (show ¬ zw (zand v2 63) = 2 by omega), if_neg (show ¬ zw (zand v2 63) = 3 by omega), if_neg (show ¬ zw (zand v2 63) = 4 by omega), if_neg (show ¬ zw (zand v2 63) = 5 by omega), if_neg (show ¬ zw (zand v2 63) = 6 by omega), if_neg (show ¬ zw (zand v2 63) = 7 by omega), if_neg (show ¬ zw (zand v2 63) = 8 by omega), if_neg (show ¬ zw (zand v2 63) = 9 by omega), if_neg (show ¬ zw (zand v2 63) = 10 by omega), if_neg (show ¬ zw (zand v2 63) = 11 by omega), if_neg (show ¬ zw (zand v2 63) = 12 by omega), if_neg (show ¬ zw (zand v2 63) = 13 by omega), if_neg (show ¬ zw (zand v2 63) = 14 by omega), if_neg (show ¬ zw (zand v2 63) = 15 by omega), if_neg (show ¬ zw (zand v2 63) = 16 by omega), if_neg (show ¬ zw (zand v2 63) = 17 by omega), if_neg (show ¬ zw (zand v2 63) = 18 by omega), if_neg (show ¬ zw (zand v2 63) = 19 by omega), if_pos hq]
          refine ⟨592, by rw [hq]; rfl, ?_⟩
          show Rz X 205 (592, [zr (-1), zr a1, zr a2, zi s1.1], [], s1.2, K) _ _
          refine z_aload h205 rfl rfl (Or.inl rfl) (by omega) ?_
          refine z_aload h205 rfl rfl (Or.inl rfl) (by omega) ?_
          refine z_iload h205 rfl rfl (Or.inl rfl) ?_
          refine z_iconst h205 rfl ?_
          refine z_iadd h205 rfl ?_
          refine z_sald h205 rfl (fun v130 => ?_)
          refine z_cv (a := 109) (b := 0) (l := [99, 2, 11, 15]) (as := [zi v130]) (lsE := [zr a1, zi v130, zU, zU, zU, zU, zU]) (st' := []) (val := fun p => some (zi p.1)) (mem := fun p => p.2) h205 rfl ⟨rfl, rfl, rfl, Nat.le_of_ble_eq_true rfl, Nat.le_of_ble_eq_true rfl, rfl⟩ (fun g1 => (t_qbs_steps X n K s1.2 a1 v130 (by omega))) (fun p131 => ?_)
          refine z_aload h205 rfl rfl (Or.inl rfl) (by omega) ?_
          refine z_aload h205 rfl rfl (Or.inl rfl) (by omega) ?_
          refine z_iload h205 rfl rfl (Or.inl rfl) ?_
          refine z_iconst h205 rfl ?_
          refine z_iadd h205 rfl ?_
          refine z_sald h205 rfl (fun v132 => ?_)
          refine z_cv (a := 175) (b := 0) (l := [102, 2, 12, 49]) (as := [zi v132]) (lsE := [zr a2, zi v132, zU, zU, zU, zU, zU]) (st' := [zi p131.1]) (val := fun p => some (zi p.1)) (mem := fun p => p.2) h205 rfl ⟨rfl, rfl, rfl, Nat.le_of_ble_eq_true rfl, Nat.le_of_ble_eq_true rfl, rfl⟩ (fun g1 => (t_qmd_steps X n K p131.2 a2 v132 (by omega))) (fun p133 => ?_)
          refine z_iceq h205 rfl ?_ ?_
          · exact Rz.here fun _ q => q
          · refine z_iconst h205 rfl ?_
            exact z_zret h205 rfl (Or.inl rfl) (fun _ q => q)
        · rw [if_neg (show ¬ zw (zand v2 63) = 0 by omega), if_neg (show ¬ zw (zand v2 63) = 1 by omega), if_neg (show ¬ zw (zand v2 63) = 2 by omega), if_neg (show ¬ zw (zand v2 63) = 3 by omega), if_neg (show ¬ zw (zand v2 63) = 4 by omega), if_neg (show ¬ zw (zand v2 63) = 5 by omega), if_neg (show ¬ zw (zand v2 63) = 6 by omega), if_neg (show ¬ zw (zand v2 63) = 7 by omega), if_neg (show ¬ zw (zand v2 63) = 8 by omega), if_neg (show ¬ zw (zand v2 63) = 9 by omega), if_neg (show ¬ zw (zand v2 63) = 10 by omega), if_neg (show ¬ zw (zand v2 63) = 11 by omega), if_neg (show ¬ zw (zand v2 63) = 12 by omega), if_neg (show ¬ zw (zand v2 63) = 13 by omega), if_neg (show ¬ zw (zand v2 63) = 14 by omega), if_neg (show ¬ zw (zand v2 63) = 15 by omega), if_neg (show ¬ zw (zand v2 63) = 16 by omega), if_neg (show ¬ zw (zand v2 63) = 17 by omega), if_neg (show ¬ zw (zand v2 63) = 18 by omega), if_neg (show ¬ zw (zand v2 63) = 19 by omega), if_neg (show ¬ zw (zand v2 63) = 20 by omega), if_pos hq]
          refine ⟨609, by rw [hq]; rfl, ?_⟩
          show Rz X 205 (609, [zr (-1), zr a1, zr a2, zi s1.1], [], s1.2, K) _ _
          refine z_aload h205 rfl rfl (Or.inl rfl) (by omega) ?_
          refine z_aload h205 rfl rfl (Or.inl rfl) (by omega) ?_
          refine z_iload h205 rfl rfl (Or.inl rfl) ?_
          refine z_iconst h205 rfl ?_
          refine z_iadd h205 rfl ?_
          refine z_sald h205 rfl (fun v134 => ?_)
          refine z_ci2l h205 rfl ?_
          refine z_iconst h205 rfl ?_
          refine z_lshl h205 rfl ?_
          refine z_aload h205 rfl rfl (Or.inl rfl) (by omega) ?_
          refine z_iload h205 rfl rfl (Or.inl rfl) ?_
          refine z_iconst h205 rfl ?_
          refine z_iadd h205 rfl ?_
          refine z_sald h205 rfl (fun v135 => ?_)
          refine z_ci2l h205 rfl ?_
          refine z_lconst h205 rfl ?_
          refine z_land h205 rfl ?_
          refine z_lor h205 rfl ?_
          refine z_cv (a := 110) (b := 0) (l := [105, 2, 11, 15]) (as := [zl (zlor (zlshl (zw v134) 32) (zland (zw v135) 4294967295))]) (lsE := [zr a1, zl (zlor (zlshl (zw v134) 32) (zland (zw v135) 4294967295)), zU]) (st' := []) (val := fun p => some (zi p.1)) (mem := fun p => p.2) h205 rfl ⟨rfl, rfl, rfl, Nat.le_of_ble_eq_true rfl, Nat.le_of_ble_eq_true rfl, rfl⟩ (fun g1 => (t_qbs_feed X n K s1.2 a1 (zlor (zlshl (zw v134) 32) (zland (zw v135) 4294967295)) (by omega))) (fun p136 => ?_)
          refine z_aload h205 rfl rfl (Or.inl rfl) (by omega) ?_
          refine z_aload h205 rfl rfl (Or.inl rfl) (by omega) ?_
          refine z_iload h205 rfl rfl (Or.inl rfl) ?_
          refine z_iconst h205 rfl ?_
          refine z_iadd h205 rfl ?_
          refine z_sald h205 rfl (fun v137 => ?_)
          refine z_ci2l h205 rfl ?_
          refine z_iconst h205 rfl ?_
          refine z_lshl h205 rfl ?_
          refine z_aload h205 rfl rfl (Or.inl rfl) (by omega) ?_
          refine z_iload h205 rfl rfl (Or.inl rfl) ?_
          refine z_iconst h205 rfl ?_
          refine z_iadd h205 rfl ?_
          refine z_sald h205 rfl (fun v138 => ?_)
          refine z_ci2l h205 rfl ?_
          refine z_lconst h205 rfl ?_
          refine z_land h205 rfl ?_
          refine z_lor h205 rfl ?_
          refine z_cv (a := 176) (b := 0) (l := [109, 2, 12, 49]) (as := [zl (zlor (zlshl (zw v137) 32) (zland (zw v138) 4294967295))]) (lsE := [zr a2, zl (zlor (zlshl (zw v137) 32) (zland (zw v138) 4294967295)), zU, zU]) (st' := [zi p136.1]) (val := fun p => some (zi p.1)) (mem := fun p => p.2) h205 rfl ⟨rfl, rfl, rfl, Nat.le_of_ble_eq_true rfl, Nat.le_of_ble_eq_true rfl, rfl⟩ (fun g1 => (t_qmd_feed X n K p136.2 a2 (zlor (zlshl (zw v137) 32) (zland (zw v138) 4294967295)) (by omega))) (fun p139 => ?_)
          refine z_iceq h205 rfl ?_ ?_
          · exact Rz.here fun _ q => q
          · refine z_iconst h205 rfl ?_
            exact z_zret h205 rfl (Or.inl rfl) (fun _ q => q)
        · rw [if_neg (show ¬ zw (zand v2 63) = 0 by omega), if_neg (show ¬ zw (zand v2 63) = 1 by omega), if_neg (show ¬ zw (zand v2 63) = 2 by omega), if_neg (show ¬ zw (zand v2 63) = 3 by omega), if_neg (show ¬ zw (zand v2 63) = 4 by omega), if_neg (show ¬ zw (zand v2 63) = 5 by omega), if_neg (show ¬ zw (zand v2 63) = 6 by omega), if_neg (show ¬ zw (zand v2 63) = 7 by omega), if_neg (show ¬ zw (zand v2 63) = 8 by omega), if_neg (show ¬ zw (zand v2 63) = 9 by omega), if_neg (show ¬ zw (zand v2 63) = 10 by omega), if_neg (show ¬ zw (zand v2 63) = 11 by omega), if_neg (show ¬ zw (zand v2 63) = 12 by omega), if_neg (show ¬ zw (zand v2 63) = 13 by omega), if_neg (show ¬ zw (zand v2 63) = 14 by omega), if_neg (show ¬ zw (zand v2 63) = 15 by omega), if_neg (show ¬ zw (zand v2 63) = 16 by omega), if_neg (show ¬ zw (zand v2 63) = 17 by omega), if_neg (show ¬ zw (zand v2 63) = 18 by omega), if_neg (show ¬ zw (zand v2 63) = 19 by omega), if_neg (show ¬ zw (zand v2 63) = 20 by omega), if_neg (show ¬ zw (zand v2 63) = 21 by omega), if_pos hq]
          refine ⟨650, by rw [hq]; rfl, ?_⟩
          show Rz X 205 (650, [zr (-1), zr a1, zr a2, zi s1.1], [], s1.2, K) _ _
          refine z_aload h205 rfl rfl (Or.inl rfl) (by omega) ?_
          refine z_aload h205 rfl rfl (Or.inl rfl) (by omega) ?_
          refine z_iload h205 rfl rfl (Or.inl rfl) ?_
          refine z_iconst h205 rfl ?_
          refine z_iadd h205 rfl ?_
          refine z_sald h205 rfl (fun v140 => ?_)
          refine z_cv (a := 111) (b := 0) (l := [110, 2, 11, 15]) (as := [zi v140]) (lsE := [zr a1, zi v140, zU]) (st' := []) (val := fun p => some (zi p.1)) (mem := fun p => p.2) h205 rfl ⟨rfl, rfl, rfl, Nat.le_of_ble_eq_true rfl, Nat.le_of_ble_eq_true rfl, rfl⟩ (fun g1 => (t_qbs_end X K s1.2 a1 v140 (by omega))) (fun p141 => ?_)
          refine z_aload h205 rfl rfl (Or.inl rfl) (by omega) ?_
          refine z_aload h205 rfl rfl (Or.inl rfl) (by omega) ?_
          refine z_iload h205 rfl rfl (Or.inl rfl) ?_
          refine z_iconst h205 rfl ?_
          refine z_iadd h205 rfl ?_
          refine z_sald h205 rfl (fun v142 => ?_)
          refine z_cv (a := 177) (b := 0) (l := [113, 2, 12, 49]) (as := [zi v142]) (lsE := [zr a2, zi v142, zU]) (st' := [zi p141.1]) (val := fun p => some (zi p.1)) (mem := fun p => p.2) h205 rfl ⟨rfl, rfl, rfl, Nat.le_of_ble_eq_true rfl, Nat.le_of_ble_eq_true rfl, rfl⟩ (fun g1 => (t_qmd_end X K p141.2 a2 v142 (by omega))) (fun p143 => ?_)
          refine z_iceq h205 rfl ?_ ?_
          · exact Rz.here fun _ q => q
          · refine z_iconst h205 rfl ?_
            exact z_zret h205 rfl (Or.inl rfl) (fun _ q => q)
        · rw [if_neg (show ¬ zw (zand v2 63) = 0 by omega), if_neg (show ¬ zw (zand v2 63) = 1 by omega), if_neg (show ¬ zw (zand v2 63) = 2 by omega), if_neg (show ¬ zw (zand v2 63) = 3 by omega), if_neg (show ¬ zw (zand v2 63) = 4 by omega), if_neg (show ¬ zw (zand v2 63) = 5 by omega), if_neg (show ¬ zw (zand v2 63) = 6 by omega), if_neg (show ¬ zw (zand v2 63) = 7 by omega), if_neg (show ¬ zw (zand v2 63) = 8 by omega), if_neg (show ¬ zw (zand v2 63) = 9 by omega), if_neg (show ¬ zw (zand v2 63) = 10 by omega), if_neg (show ¬ zw (zand v2 63) = 11 by omega), if_neg (show ¬ zw (zand v2 63) = 12 by omega), if_neg (show ¬ zw (zand v2 63) = 13 by omega), if_neg (show ¬ zw (zand v2 63) = 14 by omega), if_neg (show ¬ zw (zand v2 63) = 15 by omega), if_neg (show ¬ zw (zand v2 63) = 16 by omega), if_neg (show ¬ zw (zand v2 63) = 17 by omega), if_neg (show ¬ zw (zand v2 63) = 18 by omega), if_neg (show ¬ zw (zand v2 63) = 19 by omega), if_neg (show ¬ zw (zand v2 63) = 20 by omega), if_neg (show ¬ zw (zand v2 63) = 21 by omega), if_neg (show ¬ zw (zand v2 63) = 22 by omega), if_pos hq]
          refine ⟨667, by rw [hq]; rfl, ?_⟩
          show Rz X 205 (667, [zr (-1), zr a1, zr a2, zi s1.1], [], s1.2, K) _ _
          refine z_aload h205 rfl rfl (Or.inl rfl) (by omega) ?_
          refine z_cv (a := 112) (b := 0) (l := [114, 1, 11, 15]) (as := []) (lsE := [zr a1, zU, zU]) (st' := []) (val := fun p => some (zi p.1)) (mem := fun p => p.2) h205 rfl ⟨rfl, rfl, rfl, Nat.le_of_ble_eq_true rfl, Nat.le_of_ble_eq_true rfl, rfl⟩ (fun g1 => (t_qbs_program X n K s1.2 a1 (by omega))) (fun p144 => ?_)
          refine z_aload h205 rfl rfl (Or.inl rfl) (by omega) ?_
          refine z_cv (a := 186) (b := 0) (l := [117, 1, 12, 49]) (as := []) (lsE := [zr a2, zU]) (st' := [zi p144.1]) (val := fun p => some (zi p.1)) (mem := fun p => p.2) h205 rfl ⟨rfl, rfl, rfl, Nat.le_of_ble_eq_true rfl, Nat.le_of_ble_eq_true rfl, rfl⟩ (fun g1 => (t_qmd_program X n K p144.2 a2 (by omega))) (fun p145 => ?_)
          refine z_iceq h205 rfl ?_ ?_
          · exact Rz.here fun _ q => q
          · refine z_iconst h205 rfl ?_
            exact z_zret h205 rfl (Or.inl rfl) (fun _ q => q)
        · rw [if_neg (show ¬ zw (zand v2 63) = 0 by omega), if_neg (show ¬ zw (zand v2 63) = 1 by omega), if_neg (show ¬ zw (zand v2 63) = 2 by omega), if_neg (show ¬ zw (zand v2 63) = 3 by omega), if_neg (show ¬ zw (zand v2 63) = 4 by omega), if_neg (show ¬ zw (zand v2 63) = 5 by omega), if_neg (show ¬ zw (zand v2 63) = 6 by omega), if_neg (show ¬ zw (zand v2 63) = 7 by omega), if_neg (show ¬ zw (zand v2 63) = 8 by omega), if_neg (show ¬ zw (zand v2 63) = 9 by omega), if_neg (show ¬ zw (zand v2 63) = 10 by omega), if_neg (show ¬ zw (zand v2 63) = 11 by omega), if_neg (show ¬ zw (zand v2 63) = 12 by omega), if_neg (show ¬ zw (zand v2 63) = 13 by omega), if_neg (show ¬ zw (zand v2 63) = 14 by omega), if_neg (show ¬ zw (zand v2 63) = 15 by omega), if_neg (show ¬ zw (zand v2 63) = 16 by omega), if_neg (show ¬ zw (zand v2 63) = 17 by omega), if_neg (show ¬ zw (zand v2 63) = 18 by omega), if_neg (show ¬ zw (zand v2 63) = 19 by omega), if_neg (show ¬ zw (zand v2 63) = 20 by omega), if_neg (show ¬ zw (zand v2 63) = 21 by omega), if_neg (show ¬ zw (zand v2 63) = 22 by omega), if_neg (show ¬ zw (zand v2 63) = 23 by omega), if_pos hq]
          refine ⟨674, by rw [hq]; rfl, ?_⟩
          show Rz X 205 (674, [zr (-1), zr a1, zr a2, zi s1.1], [], s1.2, K) _ _
          refine z_aload h205 rfl rfl (Or.inl rfl) (by omega) ?_
          refine z_cv (a := 113) (b := 0) (l := [118, 1, 11, 15]) (as := []) (lsE := [zr a1]) (st' := []) (val := fun p => some (zi p)) (mem := fun _ => s1.2) h205 rfl ⟨rfl, rfl, rfl, Nat.le_of_ble_eq_true rfl, Nat.le_of_ble_eq_true rfl, rfl⟩ (fun g1 => (t_qbs_fault X K s1.2 a1 (by omega))) (fun v146 => ?_)
          refine z_aload h205 rfl rfl (Or.inl rfl) (by omega) ?_
          refine z_cv (a := 187) (b := 0) (l := [121, 1, 12, 49]) (as := []) (lsE := [zr a2]) (st' := [zi v146]) (val := fun p => some (zi p)) (mem := fun _ => s1.2) h205 rfl ⟨rfl, rfl, rfl, Nat.le_of_ble_eq_true rfl, Nat.le_of_ble_eq_true rfl, rfl⟩ (fun g1 => (t_qmd_fault X K s1.2 a2 (by omega))) (fun v147 => ?_)
          refine z_iceq h205 rfl ?_ ?_
          · exact Rz.here fun _ q => q
          · refine z_iconst h205 rfl ?_
            exact z_zret h205 rfl (Or.inl rfl) (fun _ q => q)
        · rw [if_neg (show ¬ zw (zand v2 63) = 0 by omega), if_neg (show ¬ zw (zand v2 63) = 1 by omega), if_neg (show ¬ zw (zand v2 63) = 2 by omega), if_neg (show ¬ zw (zand v2 63) = 3 by omega), if_neg (show ¬ zw (zand v2 63) = 4 by omega), if_neg (show ¬ zw (zand v2 63) = 5 by omega), if_neg (show ¬ zw (zand v2 63) = 6 by omega), if_neg (show ¬ zw (zand v2 63) = 7 by omega), if_neg (show ¬ zw (zand v2 63) = 8 by omega), if_neg (show ¬ zw (zand v2 63) = 9 by omega), if_neg (show ¬ zw (zand v2 63) = 10 by omega), if_neg (show ¬ zw (zand v2 63) = 11 by omega), if_neg (show ¬ zw (zand v2 63) = 12 by omega), if_neg (show ¬ zw (zand v2 63) = 13 by omega), if_neg (show ¬ zw (zand v2 63) = 14 by omega), if_neg (show ¬ zw (zand v2 63) = 15 by omega), if_neg (show ¬ zw (zand v2 63) = 16 by omega), if_neg (show ¬ zw (zand v2 63) = 17 by omega), if_neg (show ¬ zw (zand v2 63) = 18 by omega), if_neg (show ¬ zw (zand v2 63) = 19 by omega), if_neg (show ¬ zw (zand v2 63) = 20 by omega), if_neg (show ¬ zw (zand v2 63) = 21 by omega), if_neg (show ¬ zw (zand v2 63) = 22 by omega), if_neg (show ¬ zw (zand v2 63) = 23 by omega), if_neg (show ¬ zw (zand v2 63) = 24 by omega), if_pos hq]
          refine ⟨681, by rw [hq]; rfl, ?_⟩
          show Rz X 205 (681, [zr (-1), zr a1, zr a2, zi s1.1], [], s1.2, K) _ _
          refine z_aload h205 rfl rfl (Or.inl rfl) (by omega) ?_
          refine z_aload h205 rfl rfl (Or.inl rfl) (by omega) ?_
          refine z_iload h205 rfl rfl (Or.inl rfl) ?_
          refine z_iconst h205 rfl ?_
          refine z_iadd h205 rfl ?_
          refine z_sald h205 rfl (fun v148 => ?_)
          refine z_aload h205 rfl rfl (Or.inl rfl) (by omega) ?_
          refine z_iload h205 rfl rfl (Or.inl rfl) ?_
          refine z_iconst h205 rfl ?_
          refine z_iadd h205 rfl ?_
          refine z_sald h205 rfl (fun v149 => ?_)
          refine z_cv (a := 114) (b := 0) (l := [122, 3, 11, 15]) (as := [zi v148, zi v149]) (lsE := [zr a1, zi v148, zi v149]) (st' := []) (val := fun p => some (zi p)) (mem := fun _ => s1.2) h205 rfl ⟨rfl, rfl, rfl, Nat.le_of_ble_eq_true rfl, Nat.le_of_ble_eq_true rfl, rfl⟩ (fun g1 => (t_qbs_line X K s1.2 a1 v148 v149 (by omega))) (fun v150 => ?_)
          refine z_aload h205 rfl rfl (Or.inl rfl) (by omega) ?_
          refine z_aload h205 rfl rfl (Or.inl rfl) (by omega) ?_
          refine z_iload h205 rfl rfl (Or.inl rfl) ?_
          refine z_iconst h205 rfl ?_
          refine z_iadd h205 rfl ?_
          refine z_sald h205 rfl (fun v151 => ?_)
          refine z_aload h205 rfl rfl (Or.inl rfl) (by omega) ?_
          refine z_iload h205 rfl rfl (Or.inl rfl) ?_
          refine z_iconst h205 rfl ?_
          refine z_iadd h205 rfl ?_
          refine z_sald h205 rfl (fun v152 => ?_)
          refine z_cv (a := 189) (b := 0) (l := [125, 3, 12, 49]) (as := [zi v151, zi v152]) (lsE := [zr a2, zi v151, zi v152]) (st' := [zi v150]) (val := fun p => some (zi p)) (mem := fun _ => s1.2) h205 rfl ⟨rfl, rfl, rfl, Nat.le_of_ble_eq_true rfl, Nat.le_of_ble_eq_true rfl, rfl⟩ (fun g1 => (t_qmd_line X K s1.2 a2 v151 v152 (by omega))) (fun v153 => ?_)
          refine z_iceq h205 rfl ?_ ?_
          · exact Rz.here fun _ q => q
          · refine z_iconst h205 rfl ?_
            exact z_zret h205 rfl (Or.inl rfl) (fun _ q => q)
        · rw [if_neg (show ¬ zw (zand v2 63) = 0 by omega), if_neg (show ¬ zw (zand v2 63) = 1 by omega), if_neg (show ¬ zw (zand v2 63) = 2 by omega), if_neg (show ¬ zw (zand v2 63) = 3 by omega), if_neg (show ¬ zw (zand v2 63) = 4 by omega), if_neg (show ¬ zw (zand v2 63) = 5 by omega), if_neg (show ¬ zw (zand v2 63) = 6 by omega), if_neg (show ¬ zw (zand v2 63) = 7 by omega), if_neg (show ¬ zw (zand v2 63) = 8 by omega), if_neg (show ¬ zw (zand v2 63) = 9 by omega), if_neg (show ¬ zw (zand v2 63) = 10 by omega), if_neg (show ¬ zw (zand v2 63) = 11 by omega), if_neg (show ¬ zw (zand v2 63) = 12 by omega), if_neg (show ¬ zw (zand v2 63) = 13 by omega), if_neg (show ¬ zw (zand v2 63) = 14 by omega), if_neg (show ¬ zw (zand v2 63) = 15 by omega), if_neg (show ¬ zw (zand v2 63) = 16 by omega), if_neg (show ¬ zw (zand v2 63) = 17 by omega), if_neg (show ¬ zw (zand v2 63) = 18 by omega), if_neg (show ¬ zw (zand v2 63) = 19 by omega), if_neg (show ¬ zw (zand v2 63) = 20 by omega), if_neg (show ¬ zw (zand v2 63) = 21 by omega), if_neg (show ¬ zw (zand v2 63) = 22 by omega), if_neg (show ¬ zw (zand v2 63) = 23 by omega), if_neg (show ¬ zw (zand v2 63) = 24 by omega), if_neg (show ¬ zw (zand v2 63) = 25 by omega), if_pos hq]
          refine ⟨708, by rw [hq]; rfl, ?_⟩
          show Rz X 205 (708, [zr (-1), zr a1, zr a2, zi s1.1], [], s1.2, K) _ _
          refine z_aload h205 rfl rfl (Or.inl rfl) (by omega) ?_
          refine z_aload h205 rfl rfl (Or.inl rfl) (by omega) ?_
          refine z_iload h205 rfl rfl (Or.inl rfl) ?_
          refine z_iconst h205 rfl ?_
          refine z_iadd h205 rfl ?_
          refine z_sald h205 rfl (fun v154 => ?_)
          refine z_aload h205 rfl rfl (Or.inl rfl) (by omega) ?_
          refine z_iload h205 rfl rfl (Or.inl rfl) ?_
          refine z_iconst h205 rfl ?_
          refine z_iadd h205 rfl ?_
          refine z_sald h205 rfl (fun v155 => ?_)
          refine Rz.bind (t := fun j156 => (723, [zr (-1), zr a1, zr a2, zi s1.1], [zi j156, zi v154, zr a1], s1.2, K)) ?_ (fun j156 => ?_)
          · refine z_ifeq h205 rfl ?_ ?_
            · refine z_iconst h205 rfl ?_
              exact Rz.here fun _ q => q
            · refine z_iconst h205 rfl ?_
              refine z_goto h205 rfl ?_
              exact Rz.here fun _ q => q
          · (try dsimp only)
            refine z_aload h205 rfl rfl (Or.inl rfl) (by omega) ?_
            refine z_iload h205 rfl rfl (Or.inl rfl) ?_
            refine z_iconst h205 rfl ?_
            refine z_iadd h205 rfl ?_
            refine z_sald h205 rfl (fun v157 => ?_)
            refine z_cv (a := 115) (b := 0) (l := [126, 4, 11, 15]) (as := [zi v154, zi j156, zi v157]) (lsE := [zr a1, zi v154, zi j156, zi v157]) (st' := []) (val := fun p => some (zi p.1)) (mem := fun p => p.2) h205 rfl ⟨rfl, rfl, rfl, Nat.le_of_ble_eq_true rfl, Nat.le_of_ble_eq_true rfl, rfl⟩ (fun g1 => (t_qbs_time X n K s1.2 a1 v154 j156 v157 (by omega))) (fun p158 => ?_)
            refine z_aload h205 rfl rfl (Or.inl rfl) (by omega) ?_
            refine z_aload h205 rfl rfl (Or.inl rfl) (by omega) ?_
            refine z_iload h205 rfl rfl (Or.inl rfl) ?_
            refine z_iconst h205 rfl ?_
            refine z_iadd h205 rfl ?_
            refine z_sald h205 rfl (fun v159 => ?_)
            refine z_aload h205 rfl rfl (Or.inl rfl) (by omega) ?_
            refine z_iload h205 rfl rfl (Or.inl rfl) ?_
            refine z_iconst h205 rfl ?_
            refine z_iadd h205 rfl ?_
            refine z_sald h205 rfl (fun v160 => ?_)
            refine Rz.bind (t := fun j161 => (744, [zr (-1), zr a1, zr a2, zi s1.1], [zi j161, zi v159, zr a2, zi p158.1], p158.2, K)) ?_ (fun j161 => ?_)
            · refine z_ifeq h205 rfl ?_ ?_
              · refine z_iconst h205 rfl ?_
                exact Rz.here fun _ q => q
              · refine z_iconst h205 rfl ?_
                refine z_goto h205 rfl ?_
                exact Rz.here fun _ q => q
            · (try dsimp only)
              refine z_aload h205 rfl rfl (Or.inl rfl) (by omega) ?_
              refine z_iload h205 rfl rfl (Or.inl rfl) ?_
              refine z_iconst h205 rfl ?_
              refine z_iadd h205 rfl ?_
              refine z_sald h205 rfl (fun v162 => ?_)
              refine z_cv (a := 196) (b := 0) (l := [130, 4, 12, 49]) (as := [zi v159, zi j161, zi v162]) (lsE := [zr a2, zi v159, zi j161, zi v162, zU]) (st' := [zi p158.1]) (val := fun p => some (zi p.1)) (mem := fun p => p.2) h205 rfl ⟨rfl, rfl, rfl, Nat.le_of_ble_eq_true rfl, Nat.le_of_ble_eq_true rfl, rfl⟩ (fun g1 => (t_qmd_time X n K p158.2 a2 v159 j161 v162 (by omega))) (fun p163 => ?_)
              refine z_iceq h205 rfl ?_ ?_
              · exact Rz.here fun _ q => q
              · refine z_iconst h205 rfl ?_
                exact z_zret h205 rfl (Or.inl rfl) (fun _ q => q)
        · rw [if_neg (show ¬ zw (zand v2 63) = 0 by omega), if_neg (show ¬ zw (zand v2 63) = 1 by omega), if_neg (show ¬ zw (zand v2 63) = 2 by omega), if_neg (show ¬ zw (zand v2 63) = 3 by omega), if_neg (show ¬ zw (zand v2 63) = 4 by omega), if_neg (show ¬ zw (zand v2 63) = 5 by omega), if_neg (show ¬ zw (zand v2 63) = 6 by omega), if_neg (show ¬ zw (zand v2 63) = 7 by omega), if_neg (show ¬ zw (zand v2 63) = 8 by omega), if_neg (show ¬ zw (zand v2 63) = 9 by omega), if_neg (show ¬ zw (zand v2 63) = 10 by omega), if_neg (show ¬ zw (zand v2 63) = 11 by omega), if_neg (show ¬ zw (zand v2 63) = 12 by omega), if_neg (show ¬ zw (zand v2 63) = 13 by omega), if_neg (show ¬ zw (zand v2 63) = 14 by omega), if_neg (show ¬ zw (zand v2 63) = 15 by omega), if_neg (show ¬ zw (zand v2 63) = 16 by omega), if_neg (show ¬ zw (zand v2 63) = 17 by omega), if_neg (show ¬ zw (zand v2 63) = 18 by omega), if_neg (show ¬ zw (zand v2 63) = 19 by omega), if_neg (show ¬ zw (zand v2 63) = 20 by omega), if_neg (show ¬ zw (zand v2 63) = 21 by omega), if_neg (show ¬ zw (zand v2 63) = 22 by omega), if_neg (show ¬ zw (zand v2 63) = 23 by omega), if_neg (show ¬ zw (zand v2 63) = 24 by omega), if_neg (show ¬ zw (zand v2 63) = 25 by omega), if_neg (show ¬ zw (zand v2 63) = 26 by omega), if_pos hq]
          refine ⟨753, by rw [hq]; rfl, ?_⟩
          show Rz X 205 (753, [zr (-1), zr a1, zr a2, zi s1.1], [], s1.2, K) _ _
          refine z_aload h205 rfl rfl (Or.inl rfl) (by omega) ?_
          refine z_aload h205 rfl rfl (Or.inl rfl) (by omega) ?_
          refine z_iload h205 rfl rfl (Or.inl rfl) ?_
          refine z_iconst h205 rfl ?_
          refine z_iadd h205 rfl ?_
          refine z_sald h205 rfl (fun v164 => ?_)
          refine z_aload h205 rfl rfl (Or.inl rfl) (by omega) ?_
          refine z_iload h205 rfl rfl (Or.inl rfl) ?_
          refine z_iconst h205 rfl ?_
          refine z_iadd h205 rfl ?_
          refine z_sald h205 rfl (fun v165 => ?_)
          refine Rz.bind (t := fun j166 => (768, [zr (-1), zr a1, zr a2, zi s1.1], [zi j166, zi v164, zr a1], s1.2, K)) ?_ (fun j166 => ?_)
          · refine z_ifeq h205 rfl ?_ ?_
            · refine z_iconst h205 rfl ?_
              exact Rz.here fun _ q => q
            · refine z_iconst h205 rfl ?_
              refine z_goto h205 rfl ?_
              exact Rz.here fun _ q => q
          · (try dsimp only)
            refine z_aload h205 rfl rfl (Or.inl rfl) (by omega) ?_
            refine z_iload h205 rfl rfl (Or.inl rfl) ?_
            refine z_iconst h205 rfl ?_
            refine z_iadd h205 rfl ?_
            refine z_sald h205 rfl (fun v167 => ?_)
            refine z_aload h205 rfl rfl (Or.inl rfl) (by omega) ?_
            refine z_iload h205 rfl rfl (Or.inl rfl) ?_
            refine z_iconst h205 rfl ?_
            refine z_iadd h205 rfl ?_
            refine z_sald h205 rfl (fun v168 => ?_)
            refine z_aload h205 rfl rfl (Or.inl rfl) (by omega) ?_
            refine z_iload h205 rfl rfl (Or.inl rfl) ?_
            refine z_iconst h205 rfl ?_
            refine z_iadd h205 rfl ?_
            refine z_sald h205 rfl (fun v169 => ?_)
            refine z_cv (a := 116) (b := 0) (l := [131, 6, 11, 15]) (as := [zi v164, zi j166, zi v167, zi v168, zi v169]) (lsE := [zr a1, zi v164, zi j166, zi v167, zi v168, zi v169]) (st' := []) (val := fun p => some (zi p.1)) (mem := fun p => p.2) h205 rfl ⟨rfl, rfl, rfl, Nat.le_of_ble_eq_true rfl, Nat.le_of_ble_eq_true rfl, rfl⟩ (fun g1 => (t_qbs_when X n K s1.2 a1 v164 j166 v167 v168 v169 (by omega))) (fun p170 => ?_)
            refine z_aload h205 rfl rfl (Or.inl rfl) (by omega) ?_
            refine z_aload h205 rfl rfl (Or.inl rfl) (by omega) ?_
            refine z_iload h205 rfl rfl (Or.inl rfl) ?_
            refine z_iconst h205 rfl ?_
            refine z_iadd h205 rfl ?_
            refine z_sald h205 rfl (fun v171 => ?_)
            refine z_aload h205 rfl rfl (Or.inl rfl) (by omega) ?_
            refine z_iload h205 rfl rfl (Or.inl rfl) ?_
            refine z_iconst h205 rfl ?_
            refine z_iadd h205 rfl ?_
            refine z_sald h205 rfl (fun v172 => ?_)
            refine Rz.bind (t := fun j173 => (799, [zr (-1), zr a1, zr a2, zi s1.1], [zi j173, zi v171, zr a2, zi p170.1], p170.2, K)) ?_ (fun j173 => ?_)
            · refine z_ifeq h205 rfl ?_ ?_
              · refine z_iconst h205 rfl ?_
                exact Rz.here fun _ q => q
              · refine z_iconst h205 rfl ?_
                refine z_goto h205 rfl ?_
                exact Rz.here fun _ q => q
            · (try dsimp only)
              refine z_aload h205 rfl rfl (Or.inl rfl) (by omega) ?_
              refine z_iload h205 rfl rfl (Or.inl rfl) ?_
              refine z_iconst h205 rfl ?_
              refine z_iadd h205 rfl ?_
              refine z_sald h205 rfl (fun v174 => ?_)
              refine z_aload h205 rfl rfl (Or.inl rfl) (by omega) ?_
              refine z_iload h205 rfl rfl (Or.inl rfl) ?_
              refine z_iconst h205 rfl ?_
              refine z_iadd h205 rfl ?_
              refine z_sald h205 rfl (fun v175 => ?_)
              refine z_aload h205 rfl rfl (Or.inl rfl) (by omega) ?_
              refine z_iload h205 rfl rfl (Or.inl rfl) ?_
              refine z_iconst h205 rfl ?_
              refine z_iadd h205 rfl ?_
              refine z_sald h205 rfl (fun v176 => ?_)
              refine z_cv (a := 197) (b := 0) (l := [135, 6, 12, 49]) (as := [zi v171, zi j173, zi v174, zi v175, zi v176]) (lsE := [zr a2, zi v171, zi j173, zi v174, zi v175, zi v176]) (st' := [zi p170.1]) (val := fun p => some (zi p.1)) (mem := fun p => p.2) h205 rfl ⟨rfl, rfl, rfl, Nat.le_of_ble_eq_true rfl, Nat.le_of_ble_eq_true rfl, rfl⟩ (fun g1 => (t_qmd_when X n K p170.2 a2 v171 j173 v174 v175 v176 (by omega))) (fun p177 => ?_)
              refine z_iceq h205 rfl ?_ ?_
              · exact Rz.here fun _ q => q
              · refine z_iconst h205 rfl ?_
                exact z_zret h205 rfl (Or.inl rfl) (fun _ q => q)
        · rw [if_neg (show ¬ zw (zand v2 63) = 0 by omega), if_neg (show ¬ zw (zand v2 63) = 1 by omega), if_neg (show ¬ zw (zand v2 63) = 2 by omega), if_neg (show ¬ zw (zand v2 63) = 3 by omega), if_neg (show ¬ zw (zand v2 63) = 4 by omega), if_neg (show ¬ zw (zand v2 63) = 5 by omega), if_neg (show ¬ zw (zand v2 63) = 6 by omega), if_neg (show ¬ zw (zand v2 63) = 7 by omega), if_neg (show ¬ zw (zand v2 63) = 8 by omega), if_neg (show ¬ zw (zand v2 63) = 9 by omega), if_neg (show ¬ zw (zand v2 63) = 10 by omega), if_neg (show ¬ zw (zand v2 63) = 11 by omega), if_neg (show ¬ zw (zand v2 63) = 12 by omega), if_neg (show ¬ zw (zand v2 63) = 13 by omega), if_neg (show ¬ zw (zand v2 63) = 14 by omega), if_neg (show ¬ zw (zand v2 63) = 15 by omega), if_neg (show ¬ zw (zand v2 63) = 16 by omega), if_neg (show ¬ zw (zand v2 63) = 17 by omega), if_neg (show ¬ zw (zand v2 63) = 18 by omega), if_neg (show ¬ zw (zand v2 63) = 19 by omega), if_neg (show ¬ zw (zand v2 63) = 20 by omega), if_neg (show ¬ zw (zand v2 63) = 21 by omega), if_neg (show ¬ zw (zand v2 63) = 22 by omega), if_neg (show ¬ zw (zand v2 63) = 23 by omega), if_neg (show ¬ zw (zand v2 63) = 24 by omega), if_neg (show ¬ zw (zand v2 63) = 25 by omega), if_neg (show ¬ zw (zand v2 63) = 26 by omega), if_neg (show ¬ zw (zand v2 63) = 27 by omega), if_pos hq]
          refine ⟨818, by rw [hq]; rfl, ?_⟩
          show Rz X 205 (818, [zr (-1), zr a1, zr a2, zi s1.1], [], s1.2, K) _ _
          refine z_aload h205 rfl rfl (Or.inl rfl) (by omega) ?_
          refine z_aload h205 rfl rfl (Or.inl rfl) (by omega) ?_
          refine z_iload h205 rfl rfl (Or.inl rfl) ?_
          refine z_iconst h205 rfl ?_
          refine z_iadd h205 rfl ?_
          refine z_sald h205 rfl (fun v178 => ?_)
          refine z_aload h205 rfl rfl (Or.inl rfl) (by omega) ?_
          refine z_iload h205 rfl rfl (Or.inl rfl) ?_
          refine z_iconst h205 rfl ?_
          refine z_iadd h205 rfl ?_
          refine z_sald h205 rfl (fun v179 => ?_)
          refine Rz.bind (t := fun j180 => (833, [zr (-1), zr a1, zr a2, zi s1.1], [zi j180, zi v178, zr a1], s1.2, K)) ?_ (fun j180 => ?_)
          · refine z_ifeq h205 rfl ?_ ?_
            · refine z_iconst h205 rfl ?_
              exact Rz.here fun _ q => q
            · refine z_iconst h205 rfl ?_
              refine z_goto h205 rfl ?_
              exact Rz.here fun _ q => q
          · (try dsimp only)
            refine z_aload h205 rfl rfl (Or.inl rfl) (by omega) ?_
            refine z_iload h205 rfl rfl (Or.inl rfl) ?_
            refine z_iconst h205 rfl ?_
            refine z_iadd h205 rfl ?_
            refine z_sald h205 rfl (fun v181 => ?_)
            refine z_aload h205 rfl rfl (Or.inl rfl) (by omega) ?_
            refine z_iload h205 rfl rfl (Or.inl rfl) ?_
            refine z_iconst h205 rfl ?_
            refine z_iadd h205 rfl ?_
            refine z_sald h205 rfl (fun v182 => ?_)
            refine z_cv (a := 117) (b := 0) (l := [136, 5, 11, 15]) (as := [zi v178, zi j180, zi v181, zi v182]) (lsE := [zr a1, zi v178, zi j180, zi v181, zi v182]) (st' := []) (val := fun p => some (zi p.1)) (mem := fun p => p.2) h205 rfl ⟨rfl, rfl, rfl, Nat.le_of_ble_eq_true rfl, Nat.le_of_ble_eq_true rfl, rfl⟩ (fun g1 => (t_qbs_used X n K s1.2 a1 v178 j180 v181 v182 (by omega))) (fun p183 => ?_)
            refine z_aload h205 rfl rfl (Or.inl rfl) (by omega) ?_
            refine z_aload h205 rfl rfl (Or.inl rfl) (by omega) ?_
            refine z_iload h205 rfl rfl (Or.inl rfl) ?_
            refine z_iconst h205 rfl ?_
            refine z_iadd h205 rfl ?_
            refine z_sald h205 rfl (fun v184 => ?_)
            refine z_aload h205 rfl rfl (Or.inl rfl) (by omega) ?_
            refine z_iload h205 rfl rfl (Or.inl rfl) ?_
            refine z_iconst h205 rfl ?_
            refine z_iadd h205 rfl ?_
            refine z_sald h205 rfl (fun v185 => ?_)
            refine Rz.bind (t := fun j186 => (859, [zr (-1), zr a1, zr a2, zi s1.1], [zi j186, zi v184, zr a2, zi p183.1], p183.2, K)) ?_ (fun j186 => ?_)
            · refine z_ifeq h205 rfl ?_ ?_
              · refine z_iconst h205 rfl ?_
                exact Rz.here fun _ q => q
              · refine z_iconst h205 rfl ?_
                refine z_goto h205 rfl ?_
                exact Rz.here fun _ q => q
            · (try dsimp only)
              refine z_aload h205 rfl rfl (Or.inl rfl) (by omega) ?_
              refine z_iload h205 rfl rfl (Or.inl rfl) ?_
              refine z_iconst h205 rfl ?_
              refine z_iadd h205 rfl ?_
              refine z_sald h205 rfl (fun v187 => ?_)
              refine z_aload h205 rfl rfl (Or.inl rfl) (by omega) ?_
              refine z_iload h205 rfl rfl (Or.inl rfl) ?_
              refine z_iconst h205 rfl ?_
              refine z_iadd h205 rfl ?_
              refine z_sald h205 rfl (fun v188 => ?_)
              refine z_cv (a := 198) (b := 0) (l := [140, 5, 12, 49]) (as := [zi v184, zi j186, zi v187, zi v188]) (lsE := [zr a2, zi v184, zi j186, zi v187, zi v188, zU, zU, zU]) (st' := [zi p183.1]) (val := fun p => some (zi p.1)) (mem := fun p => p.2) h205 rfl ⟨rfl, rfl, rfl, Nat.le_of_ble_eq_true rfl, Nat.le_of_ble_eq_true rfl, rfl⟩ (fun g1 => (t_qmd_used X n K p183.2 a2 v184 j186 v187 v188 (by omega))) (fun p189 => ?_)
              refine z_iceq h205 rfl ?_ ?_
              · exact Rz.here fun _ q => q
              · refine z_iconst h205 rfl ?_
                exact z_zret h205 rfl (Or.inl rfl) (fun _ q => q)
        · rw [if_neg (show ¬ zw (zand v2 63) = 0 by omega), if_neg (show ¬ zw (zand v2 63) = 1 by omega), if_neg (show ¬ zw (zand v2 63) = 2 by omega), if_neg (show ¬ zw (zand v2 63) = 3 by omega), if_neg (show ¬ zw (zand v2 63) = 4 by omega), if_neg (show ¬ zw (zand v2 63) = 5 by omega), if_neg (show ¬ zw (zand v2 63) = 6 by omega), if_neg (show ¬ zw (zand v2 63) = 7 by omega), if_neg (show ¬ zw (zand v2 63) = 8 by omega), if_neg (show ¬ zw (zand v2 63) = 9 by omega), if_neg (show ¬ zw (zand v2 63) = 10 by omega), if_neg (show ¬ zw (zand v2 63) = 11 by omega), if_neg (show ¬ zw (zand v2 63) = 12 by omega), if_neg (show ¬ zw (zand v2 63) = 13 by omega), if_neg (show ¬ zw (zand v2 63) = 14 by omega), if_neg (show ¬ zw (zand v2 63) = 15 by omega), if_neg (show ¬ zw (zand v2 63) = 16 by omega), if_neg (show ¬ zw (zand v2 63) = 17 by omega), if_neg (show ¬ zw (zand v2 63) = 18 by omega), if_neg (show ¬ zw (zand v2 63) = 19 by omega), if_neg (show ¬ zw (zand v2 63) = 20 by omega), if_neg (show ¬ zw (zand v2 63) = 21 by omega), if_neg (show ¬ zw (zand v2 63) = 22 by omega), if_neg (show ¬ zw (zand v2 63) = 23 by omega), if_neg (show ¬ zw (zand v2 63) = 24 by omega), if_neg (show ¬ zw (zand v2 63) = 25 by omega), if_neg (show ¬ zw (zand v2 63) = 26 by omega), if_neg (show ¬ zw (zand v2 63) = 27 by omega), if_neg (show ¬ zw (zand v2 63) = 28 by omega), if_pos hq]
          refine ⟨873, by rw [hq]; rfl, ?_⟩
          show Rz X 205 (873, [zr (-1), zr a1, zr a2, zi s1.1], [], s1.2, K) _ _
          refine z_aload h205 rfl rfl (Or.inl rfl) (by omega) ?_
          refine z_aload h205 rfl rfl (Or.inl rfl) (by omega) ?_
          refine z_iload h205 rfl rfl (Or.inl rfl) ?_
          refine z_iconst h205 rfl ?_
          refine z_iadd h205 rfl ?_
          refine z_sald h205 rfl (fun v190 => ?_)
          refine z_aload h205 rfl rfl (Or.inl rfl) (by omega) ?_
          refine z_iload h205 rfl rfl (Or.inl rfl) ?_
          refine z_iconst h205 rfl ?_
          refine z_iadd h205 rfl ?_
          refine z_sald h205 rfl (fun v191 => ?_)
          refine Rz.bind (t := fun j192 => (888, [zr (-1), zr a1, zr a2, zi s1.1], [zi j192, zi v190, zr a1], s1.2, K)) ?_ (fun j192 => ?_)
          · refine z_ifeq h205 rfl ?_ ?_
            · refine z_iconst h205 rfl ?_
              exact Rz.here fun _ q => q
            · refine z_iconst h205 rfl ?_
              refine z_goto h205 rfl ?_
              exact Rz.here fun _ q => q
          · (try dsimp only)
            refine z_aload h205 rfl rfl (Or.inl rfl) (by omega) ?_
            refine z_iload h205 rfl rfl (Or.inl rfl) ?_
            refine z_iconst h205 rfl ?_
            refine z_iadd h205 rfl ?_
            refine z_sald h205 rfl (fun v193 => ?_)
            refine z_cv (a := 118) (b := 0) (l := [141, 4, 11, 15]) (as := [zi v190, zi j192, zi v193]) (lsE := [zr a1, zi v190, zi j192, zi v193, zU, zU, zU, zU, zU]) (st' := []) (val := fun p => some (zi p.1)) (mem := fun p => p.2) h205 rfl ⟨rfl, rfl, rfl, Nat.le_of_ble_eq_true rfl, Nat.le_of_ble_eq_true rfl, rfl⟩ (fun g1 => (t_qbs_tuned X n K s1.2 a1 v190 j192 v193 (by omega))) (fun p194 => ?_)
            refine z_aload h205 rfl rfl (Or.inl rfl) (by omega) ?_
            refine z_aload h205 rfl rfl (Or.inl rfl) (by omega) ?_
            refine z_iload h205 rfl rfl (Or.inl rfl) ?_
            refine z_iconst h205 rfl ?_
            refine z_iadd h205 rfl ?_
            refine z_sald h205 rfl (fun v195 => ?_)
            refine z_aload h205 rfl rfl (Or.inl rfl) (by omega) ?_
            refine z_iload h205 rfl rfl (Or.inl rfl) ?_
            refine z_iconst h205 rfl ?_
            refine z_iadd h205 rfl ?_
            refine z_sald h205 rfl (fun v196 => ?_)
            refine Rz.bind (t := fun j197 => (909, [zr (-1), zr a1, zr a2, zi s1.1], [zi j197, zi v195, zr a2, zi p194.1], p194.2, K)) ?_ (fun j197 => ?_)
            · refine z_ifeq h205 rfl ?_ ?_
              · refine z_iconst h205 rfl ?_
                exact Rz.here fun _ q => q
              · refine z_iconst h205 rfl ?_
                refine z_goto h205 rfl ?_
                exact Rz.here fun _ q => q
            · (try dsimp only)
              refine z_aload h205 rfl rfl (Or.inl rfl) (by omega) ?_
              refine z_iload h205 rfl rfl (Or.inl rfl) ?_
              refine z_iconst h205 rfl ?_
              refine z_iadd h205 rfl ?_
              refine z_sald h205 rfl (fun v198 => ?_)
              refine z_cv (a := 199) (b := 0) (l := [144, 4, 12, 49]) (as := [zi v195, zi j197, zi v198]) (lsE := [zr a2, zi v195, zi j197, zi v198, zU, zU, zU, zU]) (st' := [zi p194.1]) (val := fun p => some (zi p.1)) (mem := fun p => p.2) h205 rfl ⟨rfl, rfl, rfl, Nat.le_of_ble_eq_true rfl, Nat.le_of_ble_eq_true rfl, rfl⟩ (fun g1 => (t_qmd_tuned X n K p194.2 a2 v195 j197 v198 (by omega))) (fun p199 => ?_)
              refine z_iceq h205 rfl ?_ ?_
              · exact Rz.here fun _ q => q
              · refine z_iconst h205 rfl ?_
                exact z_zret h205 rfl (Or.inl rfl) (fun _ q => q)
        · rw [if_neg (show ¬ zw (zand v2 63) = 0 by omega), if_neg (show ¬ zw (zand v2 63) = 1 by omega), if_neg (show ¬ zw (zand v2 63) = 2 by omega), if_neg (show ¬ zw (zand v2 63) = 3 by omega), if_neg (show ¬ zw (zand v2 63) = 4 by omega), if_neg (show ¬ zw (zand v2 63) = 5 by omega), if_neg (show ¬ zw (zand v2 63) = 6 by omega), if_neg (show ¬ zw (zand v2 63) = 7 by omega), if_neg (show ¬ zw (zand v2 63) = 8 by omega), if_neg (show ¬ zw (zand v2 63) = 9 by omega), if_neg (show ¬ zw (zand v2 63) = 10 by omega), if_neg (show ¬ zw (zand v2 63) = 11 by omega), if_neg (show ¬ zw (zand v2 63) = 12 by omega), if_neg (show ¬ zw (zand v2 63) = 13 by omega), if_neg (show ¬ zw (zand v2 63) = 14 by omega), if_neg (show ¬ zw (zand v2 63) = 15 by omega), if_neg (show ¬ zw (zand v2 63) = 16 by omega), if_neg (show ¬ zw (zand v2 63) = 17 by omega), if_neg (show ¬ zw (zand v2 63) = 18 by omega), if_neg (show ¬ zw (zand v2 63) = 19 by omega), if_neg (show ¬ zw (zand v2 63) = 20 by omega), if_neg (show ¬ zw (zand v2 63) = 21 by omega), if_neg (show ¬ zw (zand v2 63) = 22 by omega), if_neg (show ¬ zw (zand v2 63) = 23 by omega), if_neg (show ¬ zw (zand v2 63) = 24 by omega), if_neg (show ¬ zw (zand v2 63) = 25 by omega), if_neg (show ¬ zw (zand v2 63) = 26 by omega), if_neg (show ¬ zw (zand v2 63) = 27 by omega), if_neg (show ¬ zw (zand v2 63) = 28 by omega), if_neg (show ¬ zw (zand v2 63) = 29 by omega), if_pos hq]
          refine ⟨918, by rw [hq]; rfl, ?_⟩
          show Rz X 205 (918, [zr (-1), zr a1, zr a2, zi s1.1], [], s1.2, K) _ _
          refine z_aload h205 rfl rfl (Or.inl rfl) (by omega) ?_
          refine z_aload h205 rfl rfl (Or.inl rfl) (by omega) ?_
          refine z_iload h205 rfl rfl (Or.inl rfl) ?_
          refine z_iconst h205 rfl ?_
          refine z_iadd h205 rfl ?_
          refine z_sald h205 rfl (fun v200 => ?_)
          refine z_aload h205 rfl rfl (Or.inl rfl) (by omega) ?_
          refine z_iload h205 rfl rfl (Or.inl rfl) ?_
          refine z_iconst h205 rfl ?_
          refine z_iadd h205 rfl ?_
          refine z_sald h205 rfl (fun v201 => ?_)
          refine z_aload h205 rfl rfl (Or.inl rfl) (by omega) ?_
          refine z_iload h205 rfl rfl (Or.inl rfl) ?_
          refine z_iconst h205 rfl ?_
          refine z_iadd h205 rfl ?_
          refine z_sald h205 rfl (fun v202 => ?_)
          refine z_cv (a := 119) (b := 0) (l := [145, 4, 11, 15]) (as := [zi v200, zi v201, zi v202]) (lsE := [zr a1, zi v200, zi v201, zi v202]) (st' := []) (val := fun p => some (zi p.1)) (mem := fun p => p.2) h205 rfl ⟨rfl, rfl, rfl, Nat.le_of_ble_eq_true rfl, Nat.le_of_ble_eq_true rfl, rfl⟩ (fun g1 => (t_qbs_sheet X n K s1.2 a1 v200 v201 v202 (by omega))) (fun p203 => ?_)
          refine z_aload h205 rfl rfl (Or.inl rfl) (by omega) ?_
          refine z_aload h205 rfl rfl (Or.inl rfl) (by omega) ?_
          refine z_iload h205 rfl rfl (Or.inl rfl) ?_
          refine z_iconst h205 rfl ?_
          refine z_iadd h205 rfl ?_
          refine z_sald h205 rfl (fun v204 => ?_)
          refine z_aload h205 rfl rfl (Or.inl rfl) (by omega) ?_
          refine z_iload h205 rfl rfl (Or.inl rfl) ?_
          refine z_iconst h205 rfl ?_
          refine z_iadd h205 rfl ?_
          refine z_sald h205 rfl (fun v205 => ?_)
          refine z_aload h205 rfl rfl (Or.inl rfl) (by omega) ?_
          refine z_iload h205 rfl rfl (Or.inl rfl) ?_
          refine z_iconst h205 rfl ?_
          refine z_iadd h205 rfl ?_
          refine z_sald h205 rfl (fun v206 => ?_)
          refine z_cv (a := 201) (b := 0) (l := [148, 4, 12, 49]) (as := [zi v204, zi v205, zi v206]) (lsE := [zr a2, zi v204, zi v205, zi v206, zU]) (st' := [zi p203.1]) (val := fun p => some (zi p.1)) (mem := fun p => p.2) h205 rfl ⟨rfl, rfl, rfl, Nat.le_of_ble_eq_true rfl, Nat.le_of_ble_eq_true rfl, rfl⟩ (fun g1 => (t_qmd_sheet X n K p203.2 a2 v204 v205 v206 (by omega))) (fun p207 => ?_)
          refine z_iceq h205 rfl ?_ ?_
          · exact Rz.here fun _ q => q
          · refine z_iconst h205 rfl ?_
            exact z_zret h205 rfl (Or.inl rfl) (fun _ q => q)
        · rw [if_neg (show ¬ zw (zand v2 63) = 0 by omega), if_neg (show ¬ zw (zand v2 63) = 1 by omega), if_neg (show ¬ zw (zand v2 63) = 2 by omega), if_neg (show ¬ zw (zand v2 63) = 3 by omega), if_neg (show ¬ zw (zand v2 63) = 4 by omega), if_neg (show ¬ zw (zand v2 63) = 5 by omega), if_neg (show ¬ zw (zand v2 63) = 6 by omega), if_neg (show ¬ zw (zand v2 63) = 7 by omega), if_neg (show ¬ zw (zand v2 63) = 8 by omega), if_neg (show ¬ zw (zand v2 63) = 9 by omega), if_neg (show ¬ zw (zand v2 63) = 10 by omega), if_neg (show ¬ zw (zand v2 63) = 11 by omega), if_neg (show ¬ zw (zand v2 63) = 12 by omega), if_neg (show ¬ zw (zand v2 63) = 13 by omega), if_neg (show ¬ zw (zand v2 63) = 14 by omega), if_neg (show ¬ zw (zand v2 63) = 15 by omega), if_neg (show ¬ zw (zand v2 63) = 16 by omega), if_neg (show ¬ zw (zand v2 63) = 17 by omega), if_neg (show ¬ zw (zand v2 63) = 18 by omega), if_neg (show ¬ zw (zand v2 63) = 19 by omega), if_neg (show ¬ zw (zand v2 63) = 20 by omega), if_neg (show ¬ zw (zand v2 63) = 21 by omega), if_neg (show ¬ zw (zand v2 63) = 22 by omega), if_neg (show ¬ zw (zand v2 63) = 23 by omega), if_neg (show ¬ zw (zand v2 63) = 24 by omega), if_neg (show ¬ zw (zand v2 63) = 25 by omega), if_neg (show ¬ zw (zand v2 63) = 26 by omega), if_neg (show ¬ zw (zand v2 63) = 27 by omega), if_neg (show ¬ zw (zand v2 63) = 28 by omega), if_neg (show ¬ zw (zand v2 63) = 29 by omega), if_neg (show ¬ zw (zand v2 63) = 30 by omega), if_pos hq]
          refine ⟨955, by rw [hq]; rfl, ?_⟩
          show Rz X 205 (955, [zr (-1), zr a1, zr a2, zi s1.1], [], s1.2, K) _ _
          refine z_aload h205 rfl rfl (Or.inl rfl) (by omega) ?_
          refine z_aload h205 rfl rfl (Or.inl rfl) (by omega) ?_
          refine z_iload h205 rfl rfl (Or.inl rfl) ?_
          refine z_iconst h205 rfl ?_
          refine z_iadd h205 rfl ?_
          refine z_sald h205 rfl (fun v208 => ?_)
          refine z_aload h205 rfl rfl (Or.inl rfl) (by omega) ?_
          refine z_iload h205 rfl rfl (Or.inl rfl) ?_
          refine z_iconst h205 rfl ?_
          refine z_iadd h205 rfl ?_
          refine z_sald h205 rfl (fun v209 => ?_)
          refine z_aload h205 rfl rfl (Or.inl rfl) (by omega) ?_
          refine z_iload h205 rfl rfl (Or.inl rfl) ?_
          refine z_iconst h205 rfl ?_
          refine z_iadd h205 rfl ?_
          refine z_sald h205 rfl (fun v210 => ?_)
          refine z_cv (a := 120) (b := 0) (l := [149, 4, 11, 15]) (as := [zi v208, zi v209, zi v210]) (lsE := [zr a1, zi v208, zi v209, zi v210, zU]) (st' := []) (val := fun p => some (zi p.1)) (mem := fun p => p.2) h205 rfl ⟨rfl, rfl, rfl, Nat.le_of_ble_eq_true rfl, Nat.le_of_ble_eq_true rfl, rfl⟩ (fun g1 => (t_qbs_write X K s1.2 a1 v208 v209 v210 (by omega))) (fun p211 => ?_)
          refine z_aload h205 rfl rfl (Or.inl rfl) (by omega) ?_
          refine z_aload h205 rfl rfl (Or.inl rfl) (by omega) ?_
          refine z_iload h205 rfl rfl (Or.inl rfl) ?_
          refine z_iconst h205 rfl ?_
          refine z_iadd h205 rfl ?_
          refine z_sald h205 rfl (fun v212 => ?_)
          refine z_aload h205 rfl rfl (Or.inl rfl) (by omega) ?_
          refine z_iload h205 rfl rfl (Or.inl rfl) ?_
          refine z_iconst h205 rfl ?_
          refine z_iadd h205 rfl ?_
          refine z_sald h205 rfl (fun v213 => ?_)
          refine z_aload h205 rfl rfl (Or.inl rfl) (by omega) ?_
          refine z_iload h205 rfl rfl (Or.inl rfl) ?_
          refine z_iconst h205 rfl ?_
          refine z_iadd h205 rfl ?_
          refine z_sald h205 rfl (fun v214 => ?_)
          refine z_cv (a := 202) (b := 0) (l := [152, 4, 12, 49]) (as := [zi v212, zi v213, zi v214]) (lsE := [zr a2, zi v212, zi v213, zi v214]) (st' := [zi p211.1]) (val := fun p => some (zi p.1)) (mem := fun p => p.2) h205 rfl ⟨rfl, rfl, rfl, Nat.le_of_ble_eq_true rfl, Nat.le_of_ble_eq_true rfl, rfl⟩ (fun g1 => (t_qmd_write X K p211.2 a2 v212 v213 v214 (by omega))) (fun p215 => ?_)
          refine z_iceq h205 rfl ?_ ?_
          · exact Rz.here fun _ q => q
          · refine z_iconst h205 rfl ?_
            exact z_zret h205 rfl (Or.inl rfl) (fun _ q => q)
        · rw [if_neg (show ¬ zw (zand v2 63) = 0 by omega), if_neg (show ¬ zw (zand v2 63) = 1 by omega), if_neg (show ¬ zw (zand v2 63) = 2 by omega), if_neg (show ¬ zw (zand v2 63) = 3 by omega), if_neg (show ¬ zw (zand v2 63) = 4 by omega), if_neg (show ¬ zw (zand v2 63) = 5 by omega), if_neg (show ¬ zw (zand v2 63) = 6 by omega), if_neg (show ¬ zw (zand v2 63) = 7 by omega), if_neg (show ¬ zw (zand v2 63) = 8 by omega), if_neg (show ¬ zw (zand v2 63) = 9 by omega), if_neg (show ¬ zw (zand v2 63) = 10 by omega), if_neg (show ¬ zw (zand v2 63) = 11 by omega), if_neg (show ¬ zw (zand v2 63) = 12 by omega), if_neg (show ¬ zw (zand v2 63) = 13 by omega), if_neg (show ¬ zw (zand v2 63) = 14 by omega), if_neg (show ¬ zw (zand v2 63) = 15 by omega), if_neg (show ¬ zw (zand v2 63) = 16 by omega), if_neg (show ¬ zw (zand v2 63) = 17 by omega), if_neg (show ¬ zw (zand v2 63) = 18 by omega), if_neg (show ¬ zw (zand v2 63) = 19 by omega), if_neg (show ¬ zw (zand v2 63) = 20 by omega), if_neg (show ¬ zw (zand v2 63) = 21 by omega), if_neg (show ¬ zw (zand v2 63) = 22 by omega), if_neg (show ¬ zw (zand v2 63) = 23 by omega), if_neg (show ¬ zw (zand v2 63) = 24 by omega), if_neg (show ¬ zw (zand v2 63) = 25 by omega), if_neg (show ¬ zw (zand v2 63) = 26 by omega), if_neg (show ¬ zw (zand v2 63) = 27 by omega), if_neg (show ¬ zw (zand v2 63) = 28 by omega), if_neg (show ¬ zw (zand v2 63) = 29 by omega), if_neg (show ¬ zw (zand v2 63) = 30 by omega), if_neg (show ¬ zw (zand v2 63) = 31 by omega), if_pos hq]
          refine ⟨992, by rw [hq]; rfl, ?_⟩
          show Rz X 205 (992, [zr (-1), zr a1, zr a2, zi s1.1], [], s1.2, K) _ _
          refine z_aload h205 rfl rfl (Or.inl rfl) (by omega) ?_
          refine z_aload h205 rfl rfl (Or.inl rfl) (by omega) ?_
          refine z_iload h205 rfl rfl (Or.inl rfl) ?_
          refine z_iconst h205 rfl ?_
          refine z_iadd h205 rfl ?_
          refine z_sald h205 rfl (fun v216 => ?_)
          refine z_aload h205 rfl rfl (Or.inl rfl) (by omega) ?_
          refine z_iload h205 rfl rfl (Or.inl rfl) ?_
          refine z_iconst h205 rfl ?_
          refine z_iadd h205 rfl ?_
          refine z_sald h205 rfl (fun v217 => ?_)
          refine z_aload h205 rfl rfl (Or.inl rfl) (by omega) ?_
          refine z_iload h205 rfl rfl (Or.inl rfl) ?_
          refine z_iconst h205 rfl ?_
          refine z_iadd h205 rfl ?_
          refine z_sald h205 rfl (fun v218 => ?_)
          refine z_cv (a := 121) (b := 0) (l := [153, 4, 11, 15]) (as := [zi v216, zi v217, zi v218]) (lsE := [zr a1, zi v216, zi v217, zi v218, zU, zU]) (st' := []) (val := fun p => some (zi p.1)) (mem := fun p => p.2) h205 rfl ⟨rfl, rfl, rfl, Nat.le_of_ble_eq_true rfl, Nat.le_of_ble_eq_true rfl, rfl⟩ (fun g1 => (t_qbs_read X n K s1.2 a1 v216 v217 v218 (by omega))) (fun p219 => ?_)
          refine z_aload h205 rfl rfl (Or.inl rfl) (by omega) ?_
          refine z_aload h205 rfl rfl (Or.inl rfl) (by omega) ?_
          refine z_iload h205 rfl rfl (Or.inl rfl) ?_
          refine z_iconst h205 rfl ?_
          refine z_iadd h205 rfl ?_
          refine z_sald h205 rfl (fun v220 => ?_)
          refine z_aload h205 rfl rfl (Or.inl rfl) (by omega) ?_
          refine z_iload h205 rfl rfl (Or.inl rfl) ?_
          refine z_iconst h205 rfl ?_
          refine z_iadd h205 rfl ?_
          refine z_sald h205 rfl (fun v221 => ?_)
          refine z_aload h205 rfl rfl (Or.inl rfl) (by omega) ?_
          refine z_iload h205 rfl rfl (Or.inl rfl) ?_
          refine z_iconst h205 rfl ?_
          refine z_iadd h205 rfl ?_
          refine z_sald h205 rfl (fun v222 => ?_)
          refine z_cv (a := 203) (b := 0) (l := [156, 4, 12, 49]) (as := [zi v220, zi v221, zi v222]) (lsE := [zr a2, zi v220, zi v221, zi v222, zU, zU, zU, zU]) (st' := [zi p219.1]) (val := fun p => some (zi p.1)) (mem := fun p => p.2) h205 rfl ⟨rfl, rfl, rfl, Nat.le_of_ble_eq_true rfl, Nat.le_of_ble_eq_true rfl, rfl⟩ (fun g1 => (t_qmd_read X n K p219.2 a2 v220 v221 v222 (by omega))) (fun p223 => ?_)
          refine z_iceq h205 rfl ?_ ?_
          · exact Rz.here fun _ q => q
          · refine z_iconst h205 rfl ?_
            exact z_zret h205 rfl (Or.inl rfl) (fun _ q => q)
        · rw [if_neg (show ¬ zw (zand v2 63) = 0 by omega), if_neg (show ¬ zw (zand v2 63) = 1 by omega), if_neg (show ¬ zw (zand v2 63) = 2 by omega), if_neg (show ¬ zw (zand v2 63) = 3 by omega), if_neg (show ¬ zw (zand v2 63) = 4 by omega), if_neg (show ¬ zw (zand v2 63) = 5 by omega), if_neg (show ¬ zw (zand v2 63) = 6 by omega), if_neg (show ¬ zw (zand v2 63) = 7 by omega), if_neg (show ¬ zw (zand v2 63) = 8 by omega), if_neg (show ¬ zw (zand v2 63) = 9 by omega), if_neg (show ¬ zw (zand v2 63) = 10 by omega), if_neg (show ¬ zw (zand v2 63) = 11 by omega), if_neg (show ¬ zw (zand v2 63) = 12 by omega), if_neg (show ¬ zw (zand v2 63) = 13 by omega), if_neg (show ¬ zw (zand v2 63) = 14 by omega), if_neg (show ¬ zw (zand v2 63) = 15 by omega), if_neg (show ¬ zw (zand v2 63) = 16 by omega), if_neg (show ¬ zw (zand v2 63) = 17 by omega), if_neg (show ¬ zw (zand v2 63) = 18 by omega), if_neg (show ¬ zw (zand v2 63) = 19 by omega), if_neg (show ¬ zw (zand v2 63) = 20 by omega), if_neg (show ¬ zw (zand v2 63) = 21 by omega), if_neg (show ¬ zw (zand v2 63) = 22 by omega), if_neg (show ¬ zw (zand v2 63) = 23 by omega), if_neg (show ¬ zw (zand v2 63) = 24 by omega), if_neg (show ¬ zw (zand v2 63) = 25 by omega), if_neg (show ¬ zw (zand v2 63) = 26 by omega), if_neg (show ¬ zw (zand v2 63) = 27 by omega), if_neg (show ¬ zw (zand v2 63) = 28 by omega), if_neg (show ¬ zw (zand v2 63) = 29 by omega), if_neg (show ¬ zw (zand v2 63) = 30 by omega), if_neg (show ¬ zw (zand v2 63) = 31 by omega), if_neg (show ¬ zw (zand v2 63) = 32 by omega), if_pos hq]
          refine ⟨1029, by rw [hq]; rfl, ?_⟩
          show Rz X 205 (1029, [zr (-1), zr a1, zr a2, zi s1.1], [], s1.2, K) _ _
          refine z_aload h205 rfl rfl (Or.inl rfl) (by omega) ?_
          refine z_aload h205 rfl rfl (Or.inl rfl) (by omega) ?_
          refine z_iload h205 rfl rfl (Or.inl rfl) ?_
          refine z_iconst h205 rfl ?_
          refine z_iadd h205 rfl ?_
          refine z_sald h205 rfl (fun v224 => ?_)
          refine z_cv (a := 122) (b := 0) (l := [157, 2, 11, 15]) (as := [zi v224]) (lsE := [zr a1, zi v224]) (st' := []) (val := fun p => some (zi p)) (mem := fun _ => s1.2) h205 rfl ⟨rfl, rfl, rfl, Nat.le_of_ble_eq_true rfl, Nat.le_of_ble_eq_true rfl, rfl⟩ (fun g1 => (t_qbs_count X K s1.2 a1 v224 (by omega))) (fun v225 => ?_)
          refine z_aload h205 rfl rfl (Or.inl rfl) (by omega) ?_
          refine z_aload h205 rfl rfl (Or.inl rfl) (by omega) ?_
          refine z_iload h205 rfl rfl (Or.inl rfl) ?_
          refine z_iconst h205 rfl ?_
          refine z_iadd h205 rfl ?_
          refine z_sald h205 rfl (fun v226 => ?_)
          refine z_cv (a := 204) (b := 0) (l := [160, 2, 12, 49]) (as := [zi v226]) (lsE := [zr a2, zi v226]) (st' := [zi v225]) (val := fun p => some (zi p)) (mem := fun _ => s1.2) h205 rfl ⟨rfl, rfl, rfl, Nat.le_of_ble_eq_true rfl, Nat.le_of_ble_eq_true rfl, rfl⟩ (fun g1 => (t_qmd_count X K s1.2 a2 v226 (by omega))) (fun v227 => ?_)
          refine z_iceq h205 rfl ?_ ?_
          · exact Rz.here fun _ q => q
          · refine z_iconst h205 rfl ?_
            exact z_zret h205 rfl (Or.inl rfl) (fun _ q => q)
    · (try dsimp only)
      refine z_iinc h205 rfl rfl (ls' := [zr (-1), zr a1, zr a2, zi (s1.1 + 6)]) rfl ?_
      refine z_goto h205 rfl ?_
      exact Rz.here fun _ q => q
