import java.util.Random;

/** Promises 30 to 37 and what they lean on: sheets, findings, what is counted, the digest. */
final class SheetsEdges {
    private static final int NONE = Edges.NONE, BAD = Edges.BAD;
    private static final int NULL = Edges.NULL, INDEX = Edges.INDEX, CAST = Edges.CAST, STORE = Edges.STORE;
    private static final int LEAST = Edges.LEAST, MOST = Edges.MOST;
    private static final String EIGHT = "90.;90.;90.;90.;90.;90.;90.;90.";

    static void all(Edges e) {
        rows(e);
        findings(e);
        sheet(e);
        lose(e);
        put(e);
        putRefused(e);
        get(e);
        copy(e);
        copyRefused(e);
        write(e);
        count(e);
        countRefused(e);
        digest(e);
    }

    private static ChairSmells with(int s, int form, int... items) {
        ChairSmells x = new ChairSmells();
        Check.sheet(x, s, form, items);
        return x;
    }

    private static void items(Edges e, String what, ChairSmells x, int s, int form, int... want) {
        for (int i = 0; i < want.length; i++) {
            e.due(what + ": item " + i, x.get(s, form, i), want[i]);
        }
        e.due(what + ": no item more", x.get(s, form, want.length), LEAST);
    }

    private static void rows(Edges e) {
        e.says(30, "SHEETS 0 .. 3 are LOST (at first) or a row of a FORM: 0 bytes, 1 shorts, 2 ints,"
                + " of 0 to 60 items (0 at first).");
        for (int s = 0; s < 4; s++) {
            for (int form = 0; form < 3; form++) {
                ChairSmells x = new ChairSmells();
                e.due("lost at first", x.lose(s), NULL);
                e.due("the fewest items", x.sheet(s, form, 0), 0);
                e.due("it has none", x.get(s, form, 0), LEAST);
                e.due("the most items", x.sheet(s, form, 60), 60);
                items(e, "0 at first", x, s, form, new int[60]);
                e.due("the last may be put", x.put(s, form, 59, 1), 1);
                e.due("no other sheet is made", x.lose((s + 1) % 4), NULL);
            }
        }
        int[] values = {127, 128, -128, -129, 255, 256, 32767, 32768, -32768, -32769, 65535, 65536, MOST, LEAST};
        for (int v : values) {
            e.due("as a byte " + v, with(0, 0, v).get(0, 0, 0), (byte) v);
            e.due("as a short " + v, with(0, 1, v).get(0, 1, 0), (short) v);
            e.due("as an int " + v, with(0, 2, v).get(0, 2, 0), v);
        }
    }

    private static void findings(Edges e) {
        e.says(36, "FINDINGS (answers -10 less the number; they change nothing but count() 8): 1 NULL: the SHEET is LOST;"
                + " 2 INDEX: there is no such item; 3 CAST: it has another FORM; 4 STORE: unlike FORMS; 5 SIZE: below 0.");
        for (Edges.Maker maker : new Edges.Maker[] {Edges::rich, Edges::full}) {
            e.finds(maker, "NULL", x -> x.lose(3), -11);
            e.finds(maker, "INDEX", x -> x.put(0, 0, 6, 9), -12);
            e.finds(maker, "CAST", x -> x.put(0, 1, 0, 9), -13);
            e.finds(maker, "STORE", x -> x.copy(0, 0, 1, 0, 1), -14);
            e.finds(maker, "SIZE", x -> x.sheet(0, 0, -1), -15);
        }
    }

    private static void sheet(Edges e) {
        e.says(30, "A SHEET is a new row of a FORM with n items: n.");
        ChairSmells x = with(0, 1, 7, 8, 9);
        e.due("new, of like form and as many", x.sheet(0, 1, 3), 3);
        items(e, "new items", x, 0, 1, 0, 0, 0);
        x.put(0, 1, 2, 5);
        e.due("new, of fewer", x.sheet(0, 1, 1), 1);
        items(e, "fewer", x, 0, 1, 0);
        e.due("new, of more", x.sheet(0, 1, 4), 4);
        items(e, "more", x, 0, 1, 0, 0, 0, 0);
        e.due("new, of another form", x.sheet(0, 2, 2), 2);
        items(e, "another form", x, 0, 2, 0, 0);
        e.due("not as of the form it had", x.put(0, 1, 0, 1), CAST);
        e.due("the last sheet", x.sheet(3, 0, 60), 60);
        e.says(30, "BAD: SHEET, FORM, above 60; SIZE.");
        for (int s : new int[] {-1, 4, MOST, LEAST}) {
            e.bad(Edges::rich, "sheet(" + s + ", 0, 1)", y -> y.sheet(s, 0, 1));
            e.bad(Edges::rich, "sheet(" + s + ", 0, -1)", y -> y.sheet(s, 0, -1));
        }
        for (int form : new int[] {-1, 3, MOST, LEAST}) {
            e.bad(Edges::rich, "sheet(0, " + form + ", 1)", y -> y.sheet(0, form, 1));
            e.bad(Edges::rich, "sheet(0, " + form + ", -1)", y -> y.sheet(0, form, -1));
        }
        for (int n : new int[] {61, MOST}) {
            e.bad(Edges::rich, "sheet(0, 0, " + n + ")", y -> y.sheet(0, 0, n));
            e.bad(Edges::rich, "sheet(3, 2, " + n + ")", y -> y.sheet(3, 2, n));
        }
        for (int n : new int[] {-1, LEAST}) {
            e.finds(Edges::rich, "sheet(0, 0, " + n + ")", y -> y.sheet(0, 0, n), Edges.SIZE);
            e.finds(Edges::rich, "sheet(3, 2, " + n + "), lost", y -> y.sheet(3, 2, n), Edges.SIZE);
        }
    }

    private static void lose(Edges e) {
        e.says(31, "It is LOST: how many items it had.");
        ChairSmells x = new ChairSmells();
        for (int s = 0; s < 4; s++) {
            x.sheet(s, 0, 20 * s);
        }
        for (int s = 0; s < 4; s++) {
            e.due("lose(" + s + ")", x.lose(s), 20 * s);
            e.due("it is lost", x.put(s, 0, 0, 0), NULL);
            e.due("once more", x.lose(s), NULL);
        }
        e.due("a new one", x.sheet(3, 0, 2), 2);
        items(e, "of new items", x, 3, 0, 0, 0);
        e.says(31, "BAD; NULL.");
        for (int s : new int[] {-1, 4, MOST, LEAST}) {
            e.bad(Edges::rich, "lose(" + s + ")", y -> y.lose(s));
        }
        e.finds(Edges::rich, "lose(3), lost", y -> y.lose(3), NULL);
    }

    private static void put(Edges e) {
        e.says(32, "Item i, treated as of a FORM, becomes v (the lowest bits that it has): 1.");
        int[] values = {0, 1, -1, 127, 128, 255, 256, 383, 384, 32767, 32768, 65535, 65536, 98303, 98304, MOST, LEAST};
        for (int v : values) {
            int low8 = Math.floorMod(v, 256);
            int low16 = Math.floorMod(v, 65536);
            ChairSmells x = new ChairSmells();
            for (int form = 0; form < 3; form++) {
                x.sheet(form, form, 3);
                e.due("put " + v, x.put(form, form, 1, v), 1);
            }
            items(e, "a byte of " + v, x, 0, 0, 0, low8 < 128 ? low8 : low8 - 256, 0);
            items(e, "a short of " + v, x, 1, 1, 0, low16 < 32768 ? low16 : low16 - 65536, 0);
            items(e, "an int of " + v, x, 2, 2, 0, v, 0);
        }
        ChairSmells ends = with(3, 2, new int[60]);
        e.due("the first item", ends.put(3, 2, 0, 5), 1);
        e.due("the last item", ends.put(3, 2, 59, 6), 1);
        e.due("the first item", ends.get(3, 2, 0), 5);
        e.due("the last item", ends.get(3, 2, 59), 6);
    }

    private static void putRefused(Edges e) {
        e.says(32, "BAD; NULL; CAST; INDEX.");
        for (int s : new int[] {-1, 4, MOST, LEAST}) {
            e.bad(Edges::rich, "put(" + s + ", 0, 0, 9)", x -> x.put(s, 0, 0, 9));
        }
        for (int form : new int[] {-1, 3, MOST, LEAST}) {
            e.bad(Edges::rich, "put(0, " + form + ", 0, 9)", x -> x.put(0, form, 0, 9));
            e.bad(Edges::rich, "put(3, " + form + ", 0, 9), lost", x -> x.put(3, form, 0, 9));
        }
        e.finds(Edges::rich, "put(3, 0, 0, 9), lost", x -> x.put(3, 0, 0, 9), NULL);
        e.finds(Edges::rich, "put(3, 0, -1, 9), lost and no such item", x -> x.put(3, 0, -1, 9), NULL);
        for (int form = 0; form < 3; form++) {
            int other = (form + 1) % 3;
            int s = form;
            e.finds(Edges::rich, "another form", x -> x.put(s, other, 0, 9), CAST);
            e.finds(Edges::rich, "another form and no such item", x -> x.put(s, other, 60, 9), CAST);
            e.finds(Edges::rich, "another form and below 0", x -> x.put(s, other, -1, 9), CAST);
            for (int i : new int[] {-1, x(form), 60, MOST, LEAST}) {
                e.finds(Edges::rich, "put(" + s + ", " + s + ", " + i + ", 9)", x -> x.put(s, s, i, 9), INDEX);
            }
        }
        e.finds(() -> with(0, 0), "no items at all", x -> x.put(0, 0, 0, 9), INDEX);
    }

    /** How many items the rich house's sheet has, which is the first number of no item. */
    private static int x(int sheet) {
        return Edges.rich().lose(sheet);
    }

    private static void get(Edges e) {
        e.says(33, "Item i of it.");
        items(e, "bytes", with(0, 0, 1, -128, 127), 0, 0, 1, -128, 127);
        items(e, "shorts", with(3, 1, -32768, 32767), 3, 1, -32768, 32767);
        items(e, "ints, the least of all too", with(1, 2, LEAST, MOST), 1, 2, LEAST, MOST);
        ChairSmells least = with(1, 2, LEAST);
        e.due("the least int may be an item", least.get(1, 2, 0), LEAST);
        e.due("that is no finding", least.count(8), 0);
        e.says(33, "BAD: the least int; so are NULL, CAST, INDEX (count() 8 tells).");
        for (int wrong : new int[] {-1, 4, MOST, LEAST}) {
            e.refused(Edges::rich, "get(" + wrong + ", 0, 0)", x -> x.get(wrong, 0, 0), LEAST);
            e.refused(Edges::rich, "get(0, " + wrong + ", 0)", x -> x.get(0, wrong, 0), LEAST);
        }
        e.refused(Edges::rich, "get(0, 3, 0)", x -> x.get(0, 3, 0), LEAST);
        e.refused(Edges::rich, "get(3, 3, 0), lost", x -> x.get(3, 3, 0), LEAST);
        e.getFinds(Edges::rich, "get(3, 0, 0), lost", x -> x.get(3, 0, 0), NULL);
        e.getFinds(Edges::rich, "get(3, 0, -1), lost and no such item", x -> x.get(3, 0, -1), NULL);
        for (int form = 0; form < 3; form++) {
            int s = form;
            int other = (form + 2) % 3;
            e.getFinds(Edges::rich, "another form", x -> x.get(s, other, 0), CAST);
            e.getFinds(Edges::rich, "another form and no such item", x -> x.get(s, other, 60), CAST);
            for (int i : new int[] {-1, x(form), 60, MOST, LEAST}) {
                e.getFinds(Edges::rich, "get(" + s + ", " + s + ", " + i + ")", x -> x.get(s, s, i), INDEX);
            }
        }
        e.getFinds(() -> with(0, 0), "no items at all", x -> x.get(0, 0, 0), INDEX);
    }

    private static ChairSmells twoSheets(int form) {
        ChairSmells x = with(0, form, 1, 2, 3, 4, 5);
        Check.sheet(x, 1, form, 6, 7, 8);
        return x;
    }

    private static void copy(Edges e) {
        e.says(34, "n items of SHEET s, from i on, come to SHEET t (perhaps s, as they were), from j on: 1.");
        for (int form = 0; form < 3; form++) {
            ChairSmells x = twoSheets(form);
            e.due("the last two to the last two", x.copy(0, 3, 1, 1, 2), 1);
            items(e, "to", x, 1, form, 6, 4, 5);
            items(e, "from", x, 0, form, 1, 2, 3, 4, 5);
            e.due("the first three to the first three", x.copy(0, 0, 1, 0, 3), 1);
            items(e, "to", x, 1, form, 1, 2, 3);
            e.due("all of the shorter", x.copy(1, 0, 0, 2, 3), 1);
            items(e, "to", x, 0, form, 1, 2, 1, 2, 3);
            ChairSmells up = twoSheets(form);
            e.due("upwards in itself", up.copy(0, 0, 0, 1, 4), 1);
            items(e, "as they were", up, 0, form, 1, 1, 2, 3, 4);
            ChairSmells down = twoSheets(form);
            e.due("downwards in itself", down.copy(0, 1, 0, 0, 4), 1);
            items(e, "as they were", down, 0, form, 2, 3, 4, 5, 5);
            ChairSmells same = twoSheets(form);
            e.due("to its own place", same.copy(0, 0, 0, 0, 5), 1);
            items(e, "as they were", same, 0, form, 1, 2, 3, 4, 5);
            e.due("no items", same.copy(0, 2, 1, 2, 0), 1);
            e.due("no items, at the ends", same.copy(0, 5, 1, 3, 0), 1);
            items(e, "as it was", same, 1, form, 6, 7, 8);
        }
        ChairSmells most = with(3, 2, new int[60]);
        Check.sheet(most, 2, 2, new int[60]);
        most.put(3, 2, 59, 9);
        e.due("all 60", most.copy(3, 0, 2, 0, 60), 1);
        e.due("the last", most.get(2, 2, 59), 9);
        ChairSmells none = with(0, 0);
        e.due("none of none", none.copy(0, 0, 0, 0, 0), 1);
    }

    private static void copyRefused(Edges e) {
        e.says(34, "BAD: the SHEETS; NULL: s, t; STORE; INDEX: below 0, not so many.");
        for (int s : new int[] {-1, 4, MOST, LEAST}) {
            e.bad(Edges::rich, "from " + s, x -> x.copy(s, 0, 0, 0, 1));
            e.bad(Edges::rich, "to " + s, x -> x.copy(0, 0, s, 0, 1));
            e.bad(Edges::rich, "lost, to " + s, x -> x.copy(3, 0, s, 0, 1));
            e.bad(Edges::rich, "to lost, from " + s, x -> x.copy(s, 0, 3, 0, 1));
        }
        e.finds(Edges::rich, "from lost", x -> x.copy(3, 0, 0, 0, 1), NULL);
        e.finds(Edges::rich, "to lost", x -> x.copy(0, 0, 3, 0, 1), NULL);
        e.finds(Edges::rich, "lost to itself", x -> x.copy(3, 0, 3, 0, 0), NULL);
        e.finds(Edges::rich, "lost, and below 0", x -> x.copy(3, -1, 0, -1, -1), NULL);
        for (int s = 0; s < 3; s++) {
            int from = s;
            int to = (s + 1) % 3;
            e.finds(Edges::rich, "unlike forms", x -> x.copy(from, 0, to, 0, 1), STORE);
            e.finds(Edges::rich, "unlike forms, no items", x -> x.copy(from, 0, to, 0, 0), STORE);
            e.finds(Edges::rich, "unlike forms, below 0", x -> x.copy(from, -1, to, 0, 1), STORE);
            e.finds(Edges::rich, "unlike forms, too many", x -> x.copy(from, 0, to, 0, 60), STORE);
        }
        int[][] wrong = {{-1, 0, 1}, {0, -1, 1}, {0, 0, -1}, {-1, 0, 0}, {0, -1, 0}, {-1, -1, -1},
            {0, 0, 4}, {0, 1, 3}, {3, 0, 3}, {2, 0, 4}, {0, 3, 1}, {5, 0, 1}, {6, 0, 0}, {0, 4, 0},
            {MOST, 0, 1}, {0, MOST, 1}, {1, 0, MOST}, {0, 1, MOST}, {MOST, MOST, MOST}, {MOST, 0, 0}, {0, MOST, 0},
            {LEAST, 0, 1}, {0, LEAST, 1}, {0, 0, LEAST}, {LEAST, LEAST, LEAST}, {1, 1, LEAST}};
        for (int[] w : wrong) {
            String call = "copy(0, " + w[0] + ", 1, " + w[1] + ", " + w[2] + ")";
            e.finds(() -> twoSheets(0), call, x -> x.copy(0, w[0], 1, w[1], w[2]), INDEX);
        }
        e.finds(() -> twoSheets(0), "in itself, one too many", x -> x.copy(0, 0, 0, 1, 5), INDEX);
        e.finds(() -> twoSheets(0), "in itself, one too many", x -> x.copy(0, 1, 0, 0, 5), INDEX);
        ChairSmells x = twoSheets(0);
        x.copy(0, 0, 1, 0, 4);
        items(e, "none came at all", x, 1, 0, 6, 7, 8);
    }

    private static void write(Edges e) {
        e.says(35, "What a THING TELLS behind HOURS 0 on, as bits, comes to a SHEET from item 0 on,"
                + " as many as there are items, 24 at most: how many.");
        for (int n : new int[] {0, 1, 23, 24, 25, 60}) {
            ChairSmells x = Edges.house("55o;11o", EIGHT, 0, 0, 0, 23, 6, 0, 5, 1, 1);
            int[] want = new int[n];
            x.sheet(0, 2, n);
            for (int i = 0; i < n; i++) {
                x.put(0, 2, i, -9);
                want[i] = i > 23 ? -9 : i == 23 ? 65 : 1;
            }
            e.due("write to " + n, x.write(0, 0), Math.min(n, 24));
            items(e, "written of " + n, x, 0, 2, want);
        }
        ChairSmells eight = Edges.house("55o;55o", EIGHT, 0, 7, 0, 1, 0, 0, 2, 7, 1);
        for (int form = 0; form < 3; form++) {
            eight.sheet(form, form, 3);
            e.due("write", eight.write(0, form), 3);
        }
        items(e, "the lowest bits that a byte has", eight, 0, 0, -128, -127, -127);
        items(e, "shorts", eight, 1, 1, 128, 129, 129);
        items(e, "ints", eight, 2, 2, 128, 129, 129);
        e.due("another thing", eight.write(1, 2), 3);
        items(e, "another thing", eight, 2, 2, 0, 0, 128);
        e.says(35, "BAD; NULL.");
        for (int thing : new int[] {-1, 3, 5, 6, MOST, LEAST}) {
            e.bad(Edges::rich, "write(" + thing + ", 0)", x -> x.write(thing, 0));
            e.bad(Edges::rich, "write(" + thing + ", 3), lost", x -> x.write(thing, 3));
        }
        for (int s : new int[] {-1, 4, MOST, LEAST}) {
            e.bad(Edges::rich, "write(0, " + s + ")", x -> x.write(0, s));
        }
        e.bad(Edges::full, "a seventh thing", x -> x.write(6, 0));
        e.bad(Edges::empty, "no thing, and lost", x -> x.write(0, 0));
        e.finds(Edges::rich, "write(0, 3), lost", x -> x.write(0, 3), NULL);
    }

    private static void count(Edges e) {
        e.says(36, "0 THINGS, 1 PEOPLE, 2, 3 bytes of texts, 4 SITTINGS, 5 WINDOWS, 6 SMELT,"
                + " 7 LAYERS of all THINGS behind HOUR 23, 8 the number of the latest FINDING (0 before any).");
        ChairSmells bare = new ChairSmells();
        for (int what = 0; what < 9; what++) {
            e.due("at first " + what, bare.count(what), 0);
        }
        ChairSmells full = Edges.full();
        int[] want = {6, 8, 23, 31, 20, 8, 8};
        for (int what = 0; what < want.length; what++) {
            e.due("of all that there may be " + what, full.count(what), want[what]);
        }
        e.due("the latest finding", full.count(8), 5);
        ChairSmells fault = Check.house("11o;", "90.;9");
        e.due("no things with a fault", fault.count(0), 0);
        e.due("nobody with a fault", fault.count(1), 0);
        e.due("bytes with a fault", fault.count(2), 4);
        e.due("bytes with a fault", fault.count(3), 5);
        ChairSmells layers = Check.house("55o;55o;55o;55o;55o;55o", EIGHT);
        for (int n = 0; n < 20; n++) {
            layers.sit(23, n % 5, n / 5);
        }
        e.due("as many layers as may be told, in the last hour", layers.count(7), 20);
        layers.window(23, 0);
        e.due("aired in the last hour", layers.count(7), 19);
        ChairSmells fading = Edges.house("55o;11o", "91.;91.;90.", 15, 0, 0, 14, 1, 0, 0, 2, 1);
        e.due("one faded in the last hour, one is left", fading.count(7), 2);
        ChairSmells away = Edges.house("55o", "90.", 0, 0, 1, 0, 7, 0);
        e.due("of things and persons that are not there none", away.count(7), 0);
        ChairSmells latest = Edges.rich();
        int[] numbers = {1, 2, 3, 4, 5, 1};
        Edges.Call[] calls = {x -> x.lose(3), x -> x.put(0, 0, 9, 0), x -> x.put(0, 1, 0, 0),
            x -> x.copy(0, 0, 1, 0, 0), x -> x.sheet(0, 0, -1), x -> x.read(3)};
        for (int n = 0; n < calls.length; n++) {
            calls[n].on(latest);
            e.due("the latest is " + numbers[n], latest.count(8), numbers[n]);
            latest.put(0, 0, 0, 0);
            latest.put(9, 0, 0, 0);
            e.due("neither an answer nor BAD takes it back", latest.count(8), numbers[n]);
        }
    }

    private static void countRefused(Edges e) {
        e.says(36, "BAD.");
        for (int what : new int[] {-1, 9, MOST, LEAST}) {
            e.bad(Edges::rich, "count(" + what + ")", x -> x.count(what));
        }
    }

    private static void digest(Edges e) {
        e.says(37, "h is 17; h becomes 31 h and each of: count() 0 to 7; of texts fault(); of THINGS thing() 0 to 2,"
                + " layers(9, it, NONE and 0), strong(9, it, 0), last(it, 0), draughts(5, it, 0, 4), above, below,"
                + " found(21, it, 1), above, below (as these are told), day(7, 12, it); of PEOPLE person() 0 to 2,"
                + " hide(it, 3, 5, NONE and 0), when(it, 0) (as it is told); of HOURS 0, 1, 5, 10, 23 tells(it, NONE),"
                + " nowhere(), known(); of SITTINGS who(), stand(it, 9); together(NONE), together(0),"
                + " frame(0, 3, 2, 4, NONE and 0) (as it is told), air(1, 4, 6, NONE and 0); as longs that wrap.");
        ChairSmells empty = new ChairSmells();
        long h = 17;
        for (long answer : new long[] {0, 0, 0, 0, 0, 0, 0, 0, -1, -1, 0, 0, 0, 0, 0, 0, 0, 0, 0, 0, 0, 0, 0, 0, 0,
            0, NONE, BAD, BAD, 0, NONE}) {
            h = 31 * h + answer;
        }
        e.due("of nothing", empty.digest(), h);
        e.due("of nothing, told", empty.digest(), digestOf(empty));
        String[] things = {"", "32o", "32u;11o", "11o;", "53o;21u;55o;11o;44u;15o"};
        String[] people = {"", "51.", "30b;92.", "9", "51.;30.;92.;40b;61.;70.;81a;90."};
        for (String thing : things) {
            for (String person : people) {
                ChairSmells x = Edges.house(thing, person, 0, 0, 0, 3, 1, 0, 4, 2, 5, 9, 7, 0, 1, 1, 1, 1, 0, 0);
                x.window(4, 0);
                e.due("of " + thing + " and " + person, x.digest(), digestOf(x));
                x.smelt(5, 0, x.tells(5, NONE));
                e.due("of " + thing + " and " + person + ", smelt", x.digest(), digestOf(x));
                e.due("it is no finding", x.count(8), 0);
            }
        }
        for (int seed = 0; seed < 100; seed++) {
            ChairSmells x = byChance(new Random(seed));
            e.due("by chance " + seed, x.digest(), digestOf(x));
        }
        e.due("of all that there may be", Edges.full().digest(), digestOf(Edges.full()));
        ChairSmells asked = Edges.full();
        asked.digest();
        e.unchanged(asked, Edges::full, "digest");
        ChairSmells sheets = Edges.full();
        sheets.lose(0);
        sheets.lose(0);
        e.due("neither sheets nor findings are in it", sheets.digest(), Edges.full().digest());
    }

    private static ChairSmells byChance(Random random) {
        ChairSmells x = Check.house("33o;22u;55o", "51.;30.;92.;40b");
        for (int n = random.nextInt(12); n > 0; n--) {
            x.sit(random.nextInt(7), random.nextInt(5), random.nextInt(4));
        }
        for (int n = random.nextInt(4); n > 0; n--) {
            x.window(random.nextInt(7), random.nextInt(4));
        }
        return x;
    }

    /** The digest once more, from the answers of the calls that it names. */
    private static long digestOf(ChairSmells x) {
        Fold fold = new Fold();
        for (int what = 0; what < 8; what++) {
            fold.add(x.count(what));
        }
        fold.add(x.fault(0), x.fault(1));
        for (int it = 0; it < x.count(0); it++) {
            fold.add(x.thing(it, 0), x.thing(it, 1), x.thing(it, 2), x.layers(9, it, NONE), x.layers(9, it, 0));
            fold.add(x.strong(9, it, 0), x.last(it, 0), x.draughts(5, it, 0, 4, 0), x.draughts(5, it, 0, 4, 1));
            fold.add(x.found(21, it, 1, 0), x.found(21, it, 1, 1), x.day(7, 12, it));
        }
        for (int it = 0; it < x.count(1); it++) {
            fold.add(x.person(it, 0), x.person(it, 1), x.person(it, 2));
            fold.add(x.hide(it, 3, 5, NONE), x.hide(it, 3, 5, 0), x.when(it, 0));
        }
        for (int hour : new int[] {0, 1, 5, 10, 23}) {
            fold.add(x.tells(hour, NONE), x.nowhere(hour), x.known(hour));
        }
        for (int it = 0; it < x.count(4); it++) {
            fold.add(x.who(it), x.stand(it, 9));
        }
        fold.add(x.together(NONE), x.together(0), x.frame(0, 3, 2, 4, NONE), x.frame(0, 3, 2, 4, 0));
        fold.add(x.air(1, 4, 6, NONE), x.air(1, 4, 6, 0));
        return fold.h;
    }

    private static final class Fold {
        private long h = 17;

        void add(long... answers) {
            for (long answer : answers) {
                h = 31 * h + answer;
            }
        }
    }
}
