/** Promises 18 to 21 and what they lean on: hiding, framing, airing, things by which each guest is known. */
final class PlansEdges {
    private static final int NONE = Edges.NONE;
    private static final String FOUR = "90.;90.;90.;90.";

    static void all(Edges e) {
        hideFewest(e);
        hidePersons(e);
        hideHours(e);
        hide(e);
        frameFewest(e);
        leastRows(e);
        frame(e);
        airFewest(e);
        airRows(e);
        air(e);
        knownFewest(e);
        known(e);
    }

    private static int[] of(int... numbers) {
        return numbers;
    }

    /** The whole row: how many, each of them, NONE behind them. */
    private static void hides(Edges e, String what, ChairSmells x, int[] asked, int... row) {
        e.due(what + ": how many", x.hide(asked[0], asked[1], asked[2], NONE), row.length);
        for (int i = 0; i < 2; i++) {
            e.due(what + ": " + i, x.hide(asked[0], asked[1], asked[2], i), i < row.length ? row[i] : NONE);
        }
    }

    private static void noHide(Edges e, String what, ChairSmells x, int... asked) {
        for (int i = -1; i < 2; i++) {
            e.due(what, x.hide(asked[0], asked[1], asked[2], i), NONE);
        }
    }

    private static void frames(Edges e, String what, ChairSmells x, int[] asked, int... row) {
        e.due(what + ": how many", x.frame(asked[0], asked[1], asked[2], asked[3], NONE), row.length);
        for (int i = 0; i < 2; i++) {
            long got = x.frame(asked[0], asked[1], asked[2], asked[3], i);
            e.due(what + ": " + i, got, i < row.length ? row[i] : NONE);
        }
    }

    private static void noFrame(Edges e, String what, ChairSmells x, int... asked) {
        for (int i = -1; i < 2; i++) {
            e.due(what, x.frame(asked[0], asked[1], asked[2], asked[3], i), NONE);
        }
    }

    private static void airs(Edges e, String what, ChairSmells x, int[] asked, int... row) {
        e.due(what + ": how many", x.air(asked[0], asked[1], asked[2], NONE), row.length);
        for (int i = 0; i < 3; i++) {
            e.due(what + ": " + i, x.air(asked[0], asked[1], asked[2], i), i < row.length ? row[i] : NONE);
        }
    }

    private static void noAir(Edges e, String what, ChairSmells x, int... asked) {
        for (int i = -1; i < 3; i++) {
            e.due(what, x.air(asked[0], asked[1], asked[2], i), NONE);
        }
    }

    private static void hideFewest(Edges e) {
        e.says(18, "HIDE: the fewest SITTINGS more (0 to 2),");
        hides(e, "nothing tells of it: none", Check.house("33o", FOUR), of(0, 0, 0));
        hides(e, "one", Edges.house("21o", FOUR, 0, 0, 0), of(0, 1, 1), 1);
        hides(e, "two", Edges.house("22o", FOUR, 0, 0, 0), of(0, 1, 1), 1, 2);
        noHide(e, "three would do", Edges.house("33o", FOUR, 0, 0, 0), 0, 1, 1);
        hides(e, "one at each of two things", Edges.house("11o;11o", FOUR, 0, 0, 0, 0, 0, 1), of(0, 1, 1), 1, 9);
        noHide(e, "one at each of three would do",
                Edges.house("11o;11o;11o", FOUR, 0, 0, 0, 0, 0, 1, 0, 0, 2), 0, 1, 1);
        noHide(e, "one and two would do", Edges.house("11o;22o", FOUR, 0, 0, 0, 0, 0, 1), 0, 1, 1);
        noHide(e, "two and one would do", Edges.house("22o;11o", FOUR, 0, 0, 0, 0, 0, 1), 0, 1, 1);
        hides(e, "none at the things that do not tell",
                Edges.house("11o;21o;11o", FOUR, 0, 1, 0, 0, 0, 1), of(0, 1, 1), 9);
        ChairSmells full = Check.house("22o", FOUR);
        for (int n = 0; n < 20; n++) {
            full.sit(0, 0, 0);
        }
        hides(e, "more than there may be told", full, of(0, 1, 1), 1, 2);
        e.due("none of them stays", full.count(4), 20);
        e.due("nor smells", full.tells(23, 0), 1);
    }

    private static void hidePersons(Edges e) {
        e.says(18, "of any PERSONS but a told one,");
        noHide(e, "nobody else", Edges.house("11o", "90.", 0, 0, 0), 0, 1, 1);
        hides(e, "the last one", Edges.house("11o", "90.;90.", 0, 1, 0), of(1, 1, 1), 0);
        hides(e, "the first one", Edges.house("11o", "90.;90.", 0, 0, 0), of(0, 1, 1), 1);
        noHide(e, "one other, where two would do", Edges.house("22o", "90.;90.", 0, 0, 0), 0, 1, 1);
        noHide(e, "one who smells so does not help", Edges.house("11o", "90.;90a", 0, 0, 0), 0, 1, 1);
        hides(e, "the soap's owner may", Edges.house("11o", "90.;20c;90.", 0, 1, 0), of(1, 1, 1), 0);
        hides(e, "the smell that counts is the soap's", Edges.house("11o", "90.;90a;90.", 0, 0, 0), of(1, 1, 1), 2);
        // one who smells as the told one comes anew with little, and is gone by then
        hides(e, "another of the same smell, weaker", Edges.house("55o", "91.;11a", 0, 0, 0), of(0, 1, 2), 1);
        noHide(e, "it may not do so itself", Edges.house("55o", "91.;11a", 0, 0, 0), 1, 1, 2);
        noHide(e, "nor as the first of two", Edges.house("55o", "91.;11a;90.", 0, 0, 0), 1, 1, 2);
        noHide(e, "nor as the second of two", Edges.house("55o", "91.;90.;11a", 0, 0, 0), 2, 1, 2);
        hides(e, "who is not there sits for nothing", Edges.house("11o", "90.", 0, 7, 0), of(0, 1, 1));
        hides(e, "no thing tells", Check.house("", "90."), of(0, 23, 23));
    }

    private static void hideHours(Edges e) {
        e.says(18, "in a told HOUR, told behind all others, by which no THING TELLS of that one's SMELL"
                + " behind another told HOUR.");
        ChairSmells x = Edges.house("11o", FOUR, 5, 0, 0);
        hides(e, "in its own hour, behind it", x, of(0, 5, 5), 1);
        noHide(e, "an hour too early", x, 0, 4, 5);
        noHide(e, "an hour too late", x, 0, 6, 5);
        hides(e, "asked behind an hour ahead of all", x, of(0, 5, 4));
        hides(e, "the last hour", x, of(0, 23, 23), 1);
        noHide(e, "the first hour, long before", x, 0, 0, 23);
        hides(e, "the first hour, behind it", Edges.house("11o", FOUR, 0, 0, 0), of(0, 0, 0), 1);
        ChairSmells later = Edges.house("11o", FOUR, 5, 0, 0, 7, 0, 0);
        noHide(e, "it comes again", later, 0, 6, 7);
        hides(e, "before it comes again", later, of(0, 6, 6), 1);
        ChairSmells aired = Edges.house("11o", FOUR, 5, 0, 0);
        aired.window(6, 0);
        hides(e, "windows come behind the sittings of the hour", aired, of(0, 6, 6));
        hides(e, "to the last hour", Edges.house("22o", FOUR, 5, 0, 0), of(0, 5, 23), 1, 2);
    }

    private static void hide(Edges e) {
        e.says(18, "HIDE (SITTINGS in an HOUR, behind another one): how many (i = NONE), the i-th (0, 1; NONE); NONE.");
        ChairSmells x = Edges.house("11o;22o;33o", FOUR, 0, 1, 0, 0, 2, 1, 0, 3, 2);
        hides(e, "none", x, of(0, 1, 2));
        hides(e, "one", x, of(1, 1, 2), 0);
        hides(e, "two", x, of(2, 1, 2), 8, 9);
        noHide(e, "too many", x, 3, 1, 2);
        e.due("asking leaves no sitting", x.count(4), 3);
        e.says(18, "BAD.");
        for (int person : new int[] {-1, 5, 7, 8, Edges.MOST, Edges.LEAST}) {
            e.bad(Edges::rich, "hide(" + person + ", ..)", y -> y.hide(person, 0, 0, NONE));
        }
        for (int i : new int[] {-2, 2, Edges.MOST, Edges.LEAST}) {
            e.bad(Edges::rich, "hide(.., " + i + ")", y -> y.hide(0, 0, 0, i));
        }
        for (int hour : new int[] {-1, 24}) {
            e.bad(Edges::rich, "hide in " + hour, y -> y.hide(0, hour, 0, 0));
            e.bad(Edges::rich, "hide behind " + hour, y -> y.hide(0, 0, hour, 0));
        }
        e.bad(Edges::full, "a ninth", y -> y.hide(8, 0, 0, NONE));
        e.bad(Edges::empty, "nobody", y -> y.hide(0, 0, 0, NONE));
    }

    private static void frameFewest(Edges e) {
        e.says(19, "FRAME: the fewest more (0 to 2), of any PERSONS, by which a told THING TELLS"
                + " of just a told set of SMELLS (bits) behind it.");
        ChairSmells x = Edges.house("33o;55u", FOUR, 0, 3, 0);
        frames(e, "as it is", x, of(0, 8, 1, 1));
        frames(e, "one", x, of(0, 9, 1, 1), 0);
        frames(e, "two", x, of(0, 13, 1, 1), 0, 2);
        noFrame(e, "three would do", x, 0, 15, 1, 1);
        noFrame(e, "fewer smells than there are", x, 0, 0, 1, 1);
        frames(e, "the set of none where there is none", x, of(1, 0, 1, 1));
        frames(e, "one at a bare thing", x, of(1, 8, 1, 1), 11);
        frames(e, "two at a bare thing", x, of(1, 12, 1, 1), 10, 11);
        noFrame(e, "of just those, not of one more", Edges.house("33o", FOUR, 0, 3, 0), 0, 4, 1, 1);
        frames(e, "another thing tells what it may", Edges.house("11o;11o", FOUR, 0, 3, 1), of(0, 1, 1, 1), 0);
        ChairSmells narrow = Edges.house("21o", FOUR, 0, 3, 0);
        frames(e, "where the nose tells of one", narrow, of(0, 1, 1, 1), 0);
        noFrame(e, "and never of two", narrow, 0, 3, 1, 1);
        ChairSmells soap = Edges.house("33o", "90b;90.;90.", 0, 2, 0);
        frames(e, "by one who has that soap", soap, of(0, 6, 1, 1), 0);
        noFrame(e, "nobody smells so", soap, 0, 5, 1, 1);
        noFrame(e, "smells of nobody that there is", soap, 0, 128, 1, 1);
        noFrame(e, "all smells", soap, 0, 255, 1, 1);
        ChairSmells hours = Edges.house("11o", FOUR, 5, 3, 0);
        frames(e, "in the hour itself, behind it", hours, of(0, 1, 5, 5), 0);
        noFrame(e, "an hour too early", hours, 0, 1, 4, 5);
        noFrame(e, "an hour too late", hours, 0, 1, 6, 5);
        frames(e, "the first hours", hours, of(0, 1, 0, 0), 0);
        frames(e, "the last hours", hours, of(0, 1, 23, 23), 0);
        ChairSmells full = Check.house("22o", FOUR);
        for (int n = 0; n < 20; n++) {
            full.sit(0, 0, 0);
        }
        frames(e, "more than there may be told", full, of(0, 6, 1, 1), 1, 2);
        e.due("none of them stays", full.count(4), 20);
    }

    private static void leastRows(Edges e) {
        e.says(19, "Each of like ones the least row of 8 times the THING and the PERSON"
                + " (none less than the one ahead; so they are told): how many; the i-th; NONE.");
        ChairSmells x = Edges.house("22o;22u", FOUR, 0, 3, 0, 0, 3, 1);
        frames(e, "the least of like persons", Edges.house("55o", "90b;90.;90b", 0, 1, 0), of(0, 2, 1, 1));
        frames(e, "the least of like persons", Check.house("55o", "90b;90.;90b"), of(0, 2, 1, 1), 0);
        frames(e, "the lesser first", x, of(0, 6, 1, 1), 1, 2);
        frames(e, "8 times the thing", x, of(1, 3, 1, 1), 8, 9);
        hides(e, "over, the two least", Edges.house("22o", FOUR, 0, 1, 0), of(1, 1, 1), 0, 2);
        hides(e, "the least things first", Edges.house("11u;33o;11o", FOUR, 0, 3, 0, 0, 3, 2), of(3, 1, 1), 0, 16);
        // the window takes the second: so the first is told of, and must be the lesser
        ChairSmells order = Edges.house("31o", FOUR, 0, 2, 0);
        order.window(2, 0);
        frames(e, "told in that order: 1 over 0 is aired", order, of(0, 1, 1, 2), 0, 1);
        frames(e, "told in that order: not 0 behind 1", order, of(0, 2, 1, 2), 1, 2);
        noFrame(e, "none greater could be told behind the last", order, 0, 8, 1, 2);
        ChairSmells keepsOne = Edges.house("11o", FOUR, 0, 3, 0);
        frames(e, "one does what two would", keepsOne, of(0, 2, 1, 1), 1);
    }

    private static void frame(Edges e) {
        e.says(19, "FRAME, likewise.");
        ChairSmells x = Edges.house("11o;22o", FOUR, 0, 3, 0);
        e.due("how many", x.frame(1, 3, 1, 1, NONE), 2);
        e.due("the first", x.frame(1, 3, 1, 1, 0), 8);
        e.due("the second", x.frame(1, 3, 1, 1, 1), 9);
        e.due("asking leaves no sitting", x.count(4), 1);
        e.says(19, "BAD.");
        for (int thing : new int[] {-1, 3, 5, 6, Edges.MOST, Edges.LEAST}) {
            e.bad(Edges::rich, "frame(" + thing + ", ..)", y -> y.frame(thing, 1, 0, 0, NONE));
        }
        for (int smells : new int[] {-1, 256, Edges.MOST, Edges.LEAST}) {
            e.bad(Edges::rich, "frame of smells " + smells, y -> y.frame(0, smells, 0, 0, NONE));
        }
        for (int i : new int[] {-2, 2, Edges.MOST, Edges.LEAST}) {
            e.bad(Edges::rich, "frame(.., " + i + ")", y -> y.frame(0, 1, 0, 0, i));
        }
        for (int hour : new int[] {-1, 24}) {
            e.bad(Edges::rich, "frame in " + hour, y -> y.frame(0, 1, hour, 0, 0));
            e.bad(Edges::rich, "frame behind " + hour, y -> y.frame(0, 1, 0, hour, 0));
        }
        e.bad(Edges::full, "a seventh thing", y -> y.frame(6, 1, 0, 0, NONE));
        e.bad(Edges::empty, "no thing", y -> y.frame(0, 0, 0, 0, NONE));
    }

    private static ChairSmells aired(int... layersOfThings) {
        ChairSmells x = Check.house("55o;55u;55o", "90.;90.;90.;90.;90.");
        for (int t = 0; t < layersOfThings.length; t++) {
            for (int p = 0; p < layersOfThings[t]; p++) {
                x.sit(5, p, t);
            }
        }
        return x;
    }

    private static void airFewest(Edges e) {
        e.says(20, "AIR: the fewest WINDOWS more (0 to 3), each of a THING in one told HOUR, told behind all others,");
        airs(e, "none", aired(), of(1, 6, 6));
        airs(e, "one", aired(1), of(1, 6, 6), 0);
        airs(e, "two", aired(2), of(1, 6, 6), 0, 0);
        airs(e, "three", aired(3), of(1, 6, 6), 0, 0, 0);
        noAir(e, "four would do", aired(4), 1, 6, 6);
        airs(e, "one each of three", aired(1, 1, 1), of(7, 6, 6), 0, 1, 2);
        noAir(e, "two and two would do", aired(2, 2), 3, 6, 6);
        noAir(e, "one, one and two would do", aired(1, 1, 2), 7, 6, 6);
        ChairSmells full = aired(3);
        for (int n = 0; n < 8; n++) {
            full.window(23, 5);
        }
        airs(e, "more than there may be told", full, of(1, 6, 6), 0, 0, 0);
        e.due("none of them stays", full.count(5), 8);
        e.due("nor airs", full.tells(6, 0), 7);
        airs(e, "in the hour itself", aired(1), of(1, 5, 5), 0);
        noAir(e, "an hour too early", aired(1), 1, 4, 5);
        noAir(e, "an hour too late", aired(1), 1, 6, 5);
        ChairSmells again = aired(1);
        again.sit(8, 0, 0);
        noAir(e, "one comes again", again, 1, 6, 8);
    }

    private static void airRows(Edges e) {
        e.says(20, "by which told THINGS (bits) TELL of nothing behind another told HOUR,"
                + " of like ones the least row of THINGS: how many; the i-th; NONE.");
        airs(e, "no thing told", aired(4, 4, 4), of(0, 6, 6));
        airs(e, "a told thing alone", aired(4, 1, 4), of(2, 6, 6), 1);
        airs(e, "the lesser thing first", aired(1, 0, 2), of(5, 6, 6), 0, 2, 2);
        airs(e, "the lesser thing first", aired(2, 1, 0), of(7, 6, 6), 0, 0, 1);
        airs(e, "told things that are not there", aired(1), of(57, 6, 6), 0);
        airs(e, "all that may be told", aired(0, 0, 1), of(63, 6, 6), 2);
        airs(e, "behind an hour ahead of all", aired(4, 4, 4), of(7, 6, 4));
        airs(e, "first and last hour", aired(2), of(1, 23, 23), 0, 0);
        airs(e, "all layers must go, not as many as the nose tells of",
                Edges.house("31o", FOUR, 0, 0, 0, 0, 1, 0), of(1, 1, 1), 0, 0);
    }

    private static void air(Edges e) {
        e.says(20, "AIR (bits of THINGS 0 to 63): how many (i = NONE), the i-th THING (0 to 2; NONE); NONE.");
        ChairSmells x = aired(1, 1, 1);
        airs(e, "the least bits", x, of(0, 5, 5));
        airs(e, "the greatest bits", x, of(63, 5, 5), 0, 1, 2);
        noAir(e, "too late", x, 63, 6, 5);
        e.due("asking leaves no window", x.count(5), 0);
        airs(e, "nothing there", new ChairSmells(), of(63, 0, 0));
        e.says(20, "BAD.");
        for (int things : new int[] {-1, 64, Edges.MOST, Edges.LEAST}) {
            e.bad(Edges::rich, "air(" + things + ", ..)", y -> y.air(things, 0, 0, NONE));
            e.bad(Edges::empty, "air(" + things + ", ..) of nothing", y -> y.air(things, 0, 0, NONE));
        }
        for (int i : new int[] {-2, 3, Edges.MOST, Edges.LEAST}) {
            e.bad(Edges::rich, "air(.., " + i + ")", y -> y.air(1, 0, 0, i));
        }
        for (int hour : new int[] {-1, 24}) {
            e.bad(Edges::rich, "air in " + hour, y -> y.air(1, hour, 0, 0));
            e.bad(Edges::rich, "air behind " + hour, y -> y.air(1, 0, hour, 0));
        }
    }

    private static void knownFewest(Edges e) {
        e.says(21, "KNOWN: the fewest THINGS of which some TELLS, behind an HOUR, of each SMELL that any TELLS of"
                + " behind it, of like ones the least bits: as bits.");
        ChairSmells x = Check.house("55o;55o;55o;55o;55o;55o", "90.;90.;90.;90.;90.;90.");
        e.due("nothing to know: none", x.known(23), 0);
        for (int t = 0; t < 6; t++) {
            x.sit(t, t, t);
            e.due("each of them is needed", x.known(t), (2 << t) - 1);
        }
        e.due("all six", x.known(23), 63);
        for (int p = 0; p < 5; p++) {
            x.sit(10, p + 1, 5);
        }
        e.due("the greatest with one other", x.known(10), 33);
        e.due("not yet", x.known(9), 63);
        ChairSmells like = Edges.house("55o;55o;55o", FOUR, 0, 0, 0, 0, 0, 1, 0, 0, 2);
        e.due("of like ones the least", like.known(0), 1);
        ChairSmells fewest = Edges.house("55o;55o;55o", FOUR, 0, 0, 0, 0, 1, 1, 0, 0, 2, 0, 1, 2);
        e.due("one of greater bits ahead of two of lesser", fewest.known(0), 4);
        ChairSmells pairs = Edges.house("22o;22o;22o", FOUR, 0, 0, 0, 0, 1, 0, 0, 1, 1, 0, 2, 1, 0, 2, 2, 0, 0, 2);
        e.due("any two would do: the least bits", pairs.known(0), 3);
        ChairSmells nose = Edges.house("51o;51o", FOUR, 0, 0, 0, 0, 1, 0, 0, 0, 1);
        e.due("a layer that a nose does not tell of does not count", nose.known(0), 3);
    }

    private static void known(Edges e) {
        e.says(21, "KNOWN, as bits.");
        e.due("of nothing", new ChairSmells().known(0), 0);
        e.due("the greatest bit alone", Edges.house("11o;11o;11o;11o;11o;11o", FOUR, 23, 3, 5).known(23), 32);
        e.due("ahead of it", Edges.house("11o;11o;11o;11o;11o;11o", FOUR, 23, 3, 5).known(22), 0);
        e.says(21, "BAD.");
        for (int hour : new int[] {-1, 24, Edges.MOST, Edges.LEAST}) {
            e.bad(Edges::full, "known(" + hour + ")", x -> x.known(hour));
            e.bad(Edges::empty, "known(" + hour + ") of nothing", x -> x.known(hour));
        }
    }
}
