set_option maxRecDepth 1000000 in
theorem mb_yL_texts : lw_tbl[931]? = some (Cond.code yL_texts cL_texts 11 (some .boolean)) := rfl
set_option maxRecDepth 1000000 in
theorem mb_yL_war : lw_tbl[1418]? = some (Cond.code yL_war cL_war 11 (some (.object "OldestDownLaw$War"))) := rfl
set_option maxRecDepth 1000000 in
theorem mb_yX12_isSame : lw_tbl[912]? = some (Cond.code yX12_isSame cX12_isSame 5 (some .boolean)) := rfl
set_option maxRecDepth 1000000 in
theorem mb_yX12_passes : lw_tbl[854]? = some (Cond.code yX12_passes cX12_passes 9 none) := rfl
