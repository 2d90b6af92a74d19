/** Of all promises: in which order a call is refused, that it changes nothing, how long an object serves. */
final class RefusalsEdges {
    private static final int NONE = Edges.NONE, NOT = Edges.NOT, FULL = Edges.FULL;
    private static final int NULL = Edges.NULL, INDEX = Edges.INDEX, CAST = Edges.CAST, STORE = Edges.STORE;

    static void all(Edges e) {
        order(e);
        changeNothing(e);
        leastLong(e);
        calls(e);
    }

    private static void order(Edges e) {
        e.says(2, "Refusals, the first that fits, in the order told at each act: BAD -2 (a number not as told,"
                + " no such thing), NULL, NOT -3 (as told), FULL -4, other FINDINGS.");
        e.due("BAD", ChairSmells.BAD, -2);
        e.due("NOT", ChairSmells.NOT, -3);
        e.due("FULL", ChairSmells.FULL, -4);
        e.due("NONE, which is no refusal", ChairSmells.NONE, -1);
        e.bad(Edges::full, "BAD ahead of FULL: type", x -> x.type(0, 256));
        e.bad(Edges::empty, "BAD ahead of NOT: undo", x -> x.undo(2));
        e.bad(Edges::full, "BAD ahead of FULL: sit", x -> x.sit(0, 8, 0));
        e.bad(Edges::full, "BAD ahead of FULL: window", x -> x.window(0, 6));
        e.bad(Edges::empty, "BAD ahead of NOT: back", x -> x.back(2));
        e.bad(Edges::empty, "BAD ahead of NULL: read", x -> x.read(4));
        e.bad(Edges::full, "BAD ahead of FULL: smelt", x -> x.smelt(0, 6, 0));
        e.bad(Edges::rich, "BAD ahead of SIZE: sheet", x -> x.sheet(4, 3, -1));
        e.bad(Edges::empty, "BAD ahead of NULL: lose", x -> x.lose(-1));
        e.bad(Edges::empty, "BAD ahead of NULL: put", x -> x.put(0, 3, -1, 0));
        e.finds(Edges::empty, "NULL ahead of CAST and INDEX: put", x -> x.put(0, 1, -1, 0), NULL);
        e.finds(Edges::rich, "CAST ahead of INDEX: put", x -> x.put(0, 1, -1, 0), CAST);
        e.refused(Edges::empty, "BAD ahead of NULL: get", x -> x.get(0, 3, -1), Edges.LEAST);
        e.getFinds(Edges::empty, "NULL ahead of CAST and INDEX: get", x -> x.get(0, 1, -1), NULL);
        e.getFinds(Edges::rich, "CAST ahead of INDEX: get", x -> x.get(0, 1, -1), CAST);
        e.bad(Edges::empty, "BAD ahead of NULL: copy", x -> x.copy(0, 0, 4, 0, 0));
        e.finds(Edges::rich, "NULL ahead of STORE and INDEX: copy", x -> x.copy(1, -1, 3, 0, -1), NULL);
        e.finds(Edges::rich, "STORE ahead of INDEX: copy", x -> x.copy(0, -1, 1, 0, -1), STORE);
        e.finds(Edges::rich, "INDEX: copy", x -> x.copy(0, -1, 0, 0, -1), INDEX);
        e.bad(Edges::empty, "BAD ahead of NULL: write", x -> x.write(0, 0));
    }

    private static void changeNothing(Edges e) {
        e.says(2, "They change nothing (FINDINGS but count() 8).");
        Edges.Call[] wrong = {x -> x.type(2, 49), x -> x.wipe(2), x -> x.undo(2), x -> x.sit(24, 0, 0),
            x -> x.window(24, 0), x -> x.back(2), x -> x.read(4), x -> x.smelt(24, 0, 0), x -> x.sheet(4, 0, 1),
            x -> x.sheet(0, 0, 61), x -> x.lose(4), x -> x.put(4, 0, 0, 1), x -> x.copy(0, 0, 4, 0, 1),
            x -> x.write(0, 4), x -> x.hide(0, 0, 0, 2), x -> x.frame(0, 0, 0, 0, 2), x -> x.air(64, 0, 0, 0),
            x -> x.when(8, 0), x -> x.who(20), x -> x.stand(20, 0), x -> x.day(1, 24, 0)};
        for (int n = 0; n < wrong.length; n++) {
            e.bad(Edges::rich, "wrong call " + n, wrong[n]);
            e.bad(Edges::full, "wrong call " + n, wrong[n]);
        }
        e.refused(Edges::full, "FULL: type", x -> x.type(0, 49), FULL);
        e.refused(Edges::full, "FULL: type", x -> x.type(1, 49), FULL);
        e.refused(Edges::full, "FULL: sit", x -> x.sit(0, 0, 0), FULL);
        e.refused(Edges::full, "FULL: window", x -> x.window(0, 0), FULL);
        e.refused(Edges::full, "FULL: smelt", x -> x.smelt(0, 0, 0), FULL);
        e.refused(Edges::empty, "NOT: undo", x -> x.undo(0), NOT);
        e.refused(Edges::empty, "NOT: back", x -> x.back(0), NOT);
        e.finds(Edges::rich, "NULL: read", x -> x.read(3), NULL);
        e.finds(Edges::rich, "NULL: write", x -> x.write(0, 3), NULL);
        e.finds(Edges::rich, "CAST: put", x -> x.put(0, 2, 0, 1), CAST);
        e.finds(Edges::rich, "INDEX: put", x -> x.put(0, 0, 6, 1), INDEX);
        e.finds(Edges::rich, "STORE: copy", x -> x.copy(0, 0, 1, 0, 1), STORE);
        e.finds(Edges::rich, "INDEX: copy", x -> x.copy(0, 0, 0, 1, 6), INDEX);
        e.finds(Edges::rich, "SIZE: sheet", x -> x.sheet(0, 0, -1), Edges.SIZE);
    }

    private static void leastLong(Edges e) {
        e.says(27, "Where the answer is a long, a refusal -x is the least long and x more.");
        e.refused(Edges::rich, "draughts", x -> x.draughts(17, 0, 0, 0, 0), -9223372036854775806L);
        e.refused(Edges::rich, "found", x -> x.found(-1, 0, 0, 0), -9223372036854775806L);
    }

    private static void calls(Edges e) {
        e.says(37, "An object is used for at most 512 calls after it has been made; what later calls answer is free.");
        ChairSmells x = Edges.house("32o;21u;55o", "51.;30.;92.;40b;61.", 0, 0, 0, 1, 1, 0);
        int calls = 2 + 11 + 19 + 2;
        long first = x.digest();
        calls++;
        for (; calls < 509; calls++) {
            e.due("call " + calls, x.tells(1, NONE), 3);
        }
        e.due("call 510", x.sit(1, 2, 0), 3);
        e.due("call 511", x.back(0), 2);
        e.due("call 512", x.digest(), first);
    }
}
