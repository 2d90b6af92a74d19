/** Promises 15 to 17 and what they lean on: who is nowhere smelt, until when a thing tells, who cannot be had apart. */
final class SmellsEdges {
    private static final int NONE = Edges.NONE, BAD = Edges.BAD;
    private static final String EIGHT = "90.;90.;90.;90.;90.;90.;90.;90.";

    static void all(Edges e) {
        nowhere(e);
        last(e);
        togetherPairs(e);
        together(e);
    }

    private static void nowhere(Edges e) {
        e.says(15, "NOWHERE: PERSONS (that there are) with a SITTING at a THING (that there is) up to that HOUR,"
                + " of whose SMELL none TELLS, as bits.");
        ChairSmells x = Edges.house("11o;21o", "90.;90.;99.;90.", 5, 0, 0, 6, 1, 0, 7, 2, 1, 8, 7, 0, 9, 3, 5);
        e.due("nobody sat up to then", x.nowhere(4), 0);
        e.due("sat in that very hour", x.nowhere(5), 0);
        e.due("the next one took its place", x.nowhere(6), 1);
        e.due("three sat, one is not smelt", x.nowhere(7), 1);
        e.due("one faded; who is not there is not told of", x.nowhere(8), 5);
        e.due("nor who sat at a thing that is not there", x.nowhere(23), 5);
        x.sit(23, 0, 1);
        e.due("one who comes in the last hour", x.nowhere(23), 4);
        e.due("not behind the hour ahead of it", x.nowhere(22), 5);
        x.window(23, 1);
        e.due("aired in the very hour", x.nowhere(23), 5);
        ChairSmells under = Edges.house("21o", "90.;90.", 0, 0, 0, 0, 1, 0);
        e.due("a layer that the nose does not tell of", under.nowhere(0), 1);
        ChairSmells soap = Edges.house("11o", "90b;90.;90a", 0, 0, 0);
        e.due("told of by the soap's number", soap.nowhere(0), 0);
        soap.sit(1, 2, 0);
        e.due("the smell of the first is gone with it", soap.nowhere(1), 1);
        ChairSmells all = Check.house("11o", EIGHT);
        for (int p = 0; p < 8; p++) {
            all.sit(0, p, 0);
        }
        e.due("all but the last", all.nowhere(0), 127);
        all.window(0, 0);
        e.due("all", all.nowhere(0), 255);
        e.says(15, "NOWHERE, as bits.");
        e.due("of nobody and nothing", new ChairSmells().nowhere(23), 0);
        e.due("the greatest bit", Edges.house("11o", EIGHT, 0, 7, 0, 0, 0, 0).nowhere(0), 128);
        e.says(15, "BAD.");
        for (int hour : new int[] {-1, 24, Edges.MOST, Edges.LEAST}) {
            e.bad(Edges::full, "nowhere(" + hour + ")", y -> y.nowhere(hour));
            e.bad(Edges::empty, "nowhere(" + hour + ") of nothing", y -> y.nowhere(hour));
        }
    }

    private static void last(Edges e) {
        e.says(16, "LAST TOLD: the last HOUR behind which a THING TELLS of a SMELL; NONE.");
        ChairSmells x = Edges.house("21o", "90.;91.;99.;19.", 0, 2, 0, 0, 0, 0, 2, 1, 0, 23, 3, 0);
        e.due("in the last hour alone", x.last(0, 3), 23);
        e.due("until the hour ahead of it", x.last(0, 0), 22);
        e.due("until it has faded", x.last(0, 1), 10);
        e.due("a layer under another that the nose never tells of", x.last(0, 2), NONE);
        ChairSmells first = Edges.house("11o", "99.", 0, 0, 0);
        e.due("behind the first hour alone", first.last(0, 0), 0);
        first.window(0, 0);
        e.due("aired in that very hour: never", first.last(0, 0), NONE);
        e.says(16, "LAST TOLD; NONE.");
        ChairSmells soap = Edges.house("11o;11o", "90b;90.", 4, 0, 0);
        e.due("of a smell", soap.last(0, 1), 23);
        e.due("not of who sat", soap.last(0, 0), NONE);
        e.due("another thing", soap.last(1, 1), NONE);
        e.says(16, "BAD.");
        for (int thing : new int[] {-1, 3, 6, Edges.MOST, Edges.LEAST}) {
            e.bad(Edges::rich, "last(" + thing + ", 0)", y -> y.last(thing, 0));
        }
        for (int smell : new int[] {-1, 5, 8, Edges.MOST, Edges.LEAST}) {
            e.bad(Edges::rich, "last(0, " + smell + ")", y -> y.last(0, smell));
        }
        e.bad(Edges::full, "a seventh thing", y -> y.last(6, 0));
        e.bad(Edges::full, "a ninth smell", y -> y.last(0, 8));
        e.bad(Edges::empty, "nothing and nobody", y -> y.last(0, 0));
    }

    private static void togetherPairs(Edges e) {
        e.says(17, "TOGETHER: pairs of SMELLS of both of which some THING TELLS behind some HOUR,"
                + " and behind no HOUR any THING TELLS of just one of them:");
        ChairSmells x = Edges.house("22o;22o", EIGHT, 23, 1, 0, 23, 0, 0);
        e.due("in the last hour alone", x.together(NONE), 1);
        ChairSmells late = Edges.house("22o", "11.;90.", 23, 0, 0, 23, 1, 0);
        e.due("there is no hour behind the last, in which one would have faded", late.together(NONE), 1);
        x.sit(0, 7, 1);
        e.due("one alone is no pair", x.together(NONE), 1);
        x.sit(1, 6, 1);
        e.due("once apart in the first hour, never a pair", x.together(NONE), 1);
        x.sit(22, 0, 0);
        e.due("apart in the hour ahead", x.together(NONE), 0);
        x.back(0);
        x.sit(23, 0, 1);
        e.due("apart at another thing", x.together(NONE), 0);
        x.back(0);
        x.sit(23, 2, 1);
        x.sit(23, 3, 1);
        e.due("another pair at another thing", x.together(NONE), 2);
        e.due("two things, one smell each", Edges.house("11o;11o", EIGHT, 0, 0, 0, 0, 1, 1).together(NONE), 0);
        e.due("a nose for one", Edges.house("21o", EIGHT, 0, 0, 0, 0, 1, 0).together(NONE), 0);
        e.due("neither of them is told of", Check.house("55o", EIGHT).together(NONE), 0);
    }

    private static void together(Edges e) {
        e.says(17, "the i-th, as 8 times the lesser and the greater (the least first); how many.");
        ChairSmells x = Edges.house("55o;55o", EIGHT, 0, 7, 0, 0, 6, 0, 0, 0, 0, 0, 5, 1, 0, 1, 1);
        int[] want = {6, 7, 13, 55};
        e.due("how many", x.together(NONE), 4);
        for (int i = 0; i < 28; i++) {
            e.due("together(" + i + ")", x.together(i), i < 4 ? want[i] : NONE);
        }
        e.says(17, "TOGETHER: how many (i = NONE), the i-th (0 to 27; NONE).");
        ChairSmells five = Edges.house("55o", EIGHT, 0, 3, 0, 0, 4, 0, 0, 5, 0, 0, 6, 0, 0, 7, 0);
        e.due("how many", five.together(NONE), 10);
        e.due("the first", five.together(0), 28);
        e.due("the tenth", five.together(9), 55);
        e.due("no eleventh", five.together(10), NONE);
        e.due("the greatest number that may be asked", five.together(27), NONE);
        ChairSmells none = new ChairSmells();
        e.due("none", none.together(NONE), 0);
        e.due("no first", none.together(0), NONE);
        e.due("no last", none.together(27), NONE);
        e.says(17, "BAD.");
        for (int i : new int[] {-2, 28, Edges.MOST, Edges.LEAST}) {
            e.bad(Edges::full, "together(" + i + ")", y -> y.together(i));
            e.bad(Edges::empty, "together(" + i + ") of nothing", y -> y.together(i));
        }
        e.due("bad", none.together(-2), BAD);
    }
}
