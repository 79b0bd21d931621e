theorem am_law : am_Law := am_law_of am_tz22
