/-- the throwing rows use this word of the library's rest: named first, so that every part is read over the whole library -/
noncomputable abbrev wd_caught := @Jvm.Stand.thenCaughtThrough
