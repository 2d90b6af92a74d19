/** Promises 12 to 14 and what they lean on: how layers come and go, what a thing tells. */
final class LayersEdges {
    private static final int NONE = Edges.NONE;
    private static final String EIGHT = "10.;20.;30.;40.;50.;60.;70.;80.";

    static void all(Edges e) {
        noMoreThanItKeeps(e);
        lessStrongFirst(e);
        sittingsThere(e);
        comesAndGoes(e);
        farthest(e);
        windows(e);
        nose(e);
        layers(e);
        strong(e);
        tells(e);
    }

    /** The layers as figures, smell and strength each, from over all others on, and none behind them. */
    private static void due(Edges e, String what, ChairSmells x, int[] at, String want) {
        int n = want.length() / 2;
        e.due(what + ": how many", x.layers(at[0], at[1], NONE), n);
        for (int i = 0; i < 5; i++) {
            e.due(what + ": of whom " + i, x.layers(at[0], at[1], i), i < n ? want.charAt(2 * i) - '0' : NONE);
            e.due(what + ": how strong " + i, x.strong(at[0], at[1], i), i < n ? want.charAt(2 * i + 1) - '0' : NONE);
        }
    }

    private static int[] at(int hour, int thing) {
        return new int[] {hour, thing};
    }

    private static ChairSmells allSit(String things, int thing) {
        ChairSmells x = Check.house(things, EIGHT);
        for (int p = 0; p < 8; p++) {
            x.sit(1, p, thing);
        }
        return x;
    }

    private static void noMoreThanItKeeps(Edges e) {
        e.says(12, "Each THING has LAYERS, no more than it KEEPS, each of a SMELL (a PERSON's number) and so strong.");
        String over = "7867564534";
        String under = "3445566778";
        for (int keeps = 1; keeps <= 5; keeps++) {
            due(e, "keeps " + keeps, allSit(keeps + "5o", 0), at(1, 0), over.substring(0, 2 * keeps));
            due(e, "keeps " + keeps, allSit(keeps + "5u", 0), at(1, 0), under.substring(10 - 2 * keeps));
        }
        ChairSmells five = Edges.house("55o", EIGHT, 0, 0, 0, 0, 1, 0, 0, 2, 0, 0, 3, 0, 0, 4, 0);
        due(e, "just as many as it keeps", five, at(0, 0), "4534231201");
        due(e, "the last of six things", allSit("11o;11o;11o;11o;11o;22o", 5), at(1, 5), "7867");
        due(e, "nobody sat at another", allSit("11o;11o;11o;11o;11o;22o", 5), at(23, 4), "");
    }

    private static void lessStrongFirst(Edges e) {
        e.says(12, "In an HOUR first each LAYER is as much less strong as its SMELL is FAST, those that are 0 are gone.");
        ChairSmells x = Edges.house("55o", "33.;43.;23.", 4, 0, 0, 4, 1, 0, 4, 2, 0);
        due(e, "not less in the hour they come", x, at(4, 0), "221403");
        due(e, "just 0, below 0, and 1 that is left", x, at(5, 0), "11");
        due(e, "gone", x, at(6, 0), "");
        ChairSmells first = Edges.house("55o", "99.", 0, 0, 0);
        due(e, "in the first hour", first, at(0, 0), "09");
        ChairSmells room = Edges.house("25o", "50.;11.;50.", 0, 0, 0, 0, 1, 0, 1, 2, 0);
        due(e, "what is gone makes room ahead of who comes", room, at(1, 0), "2505");
        ChairSmells soap = Edges.house("55o", "91.;94a", 0, 1, 0);
        due(e, "as fast as its smell's, not as its sitter's", soap, at(2, 0), "07");
        ChairSmells aired = Edges.house("55o", "50.;11.", 0, 0, 0, 0, 1, 0);
        aired.window(1, 0);
        due(e, "gone ahead of the window, which takes the next", aired, at(1, 0), "");
    }

    private static void sittingsThere(Edges e) {
        e.says(12, "Then its SITTINGS, as told (of PERSONS, THINGS that there are):");
        ChairSmells x = Edges.house("55o", "10.;20.", 9, 0, 0, 3, 1, 0, 3, 0, 0, 9, 1, 0);
        due(e, "in one hour as told", x, at(3, 0), "0112");
        due(e, "hours first, then as told", x, at(9, 0), "1201");
        ChairSmells away = Edges.house("55o", "10.;20.", 0, 2, 0, 0, 7, 0, 0, 0, 1, 0, 0, 5);
        due(e, "persons and things that are not there", away, at(23, 0), "");
        Check.text(away, 1, EIGHT);
        due(e, "as soon as they are there", away, at(23, 0), "7823");
        Check.text(away, 0, "55o;55o");
        due(e, "as soon as it is there", away, at(23, 1), "01");
        Check.text(away, 1, "10.");
        due(e, "the last of those that there are", away, at(23, 1), "01");
    }

    private static void comesAndGoes(Edges e) {
        e.says(12, "a LAYER of that SMELL there is goes, and one as STRONG as that PERSON is comes"
                + " (o: over all others; u: under all others);");
        ChairSmells over = Edges.house("35o", "51.;40.;30.", 0, 0, 0, 0, 1, 0, 0, 2, 0, 1, 0, 0);
        due(e, "ahead", over, at(0, 0), "231405");
        due(e, "comes anew, as strong as ever, over all; none is lost", over, at(1, 0), "052314");
        ChairSmells under = Edges.house("35u", "51.;40.;30.", 0, 0, 0, 0, 1, 0, 0, 2, 0, 1, 0, 0);
        due(e, "ahead", under, at(0, 0), "051423");
        due(e, "comes anew under all; none is lost", under, at(1, 0), "142305");
        ChairSmells alone = Edges.house("15o", "91.;20a", 0, 0, 0, 0, 1, 0);
        due(e, "the same soap, as strong as the last who had it", alone, at(0, 0), "02");
        ChairSmells twice = Edges.house("55u", "91.", 0, 0, 0, 0, 0, 0, 1, 0, 0);
        due(e, "never two of one smell", twice, at(1, 0), "09");
        due(e, "fades from there on", twice, at(3, 0), "07");
        ChairSmells topAgain = Edges.house("35o", "10.;20.;30.", 0, 0, 0, 0, 1, 0, 0, 2, 0, 0, 2, 0);
        due(e, "the one over all comes anew", topAgain, at(0, 0), "231201");
        ChairSmells lowAgain = Edges.house("35u", "10.;20.;30.", 0, 0, 0, 0, 1, 0, 0, 2, 0, 0, 2, 0);
        due(e, "the one under all comes anew", lowAgain, at(0, 0), "011223");
    }

    private static void farthest(Edges e) {
        e.says(12, "with more than it KEEPS the farthest from there goes.");
        ChairSmells over = Edges.house("25o", EIGHT, 0, 0, 0, 1, 1, 0, 2, 2, 0);
        due(e, "just as many as it keeps", over, at(1, 0), "1201");
        due(e, "one more: the one under all goes", over, at(2, 0), "2312");
        ChairSmells under = Edges.house("25u", EIGHT, 0, 0, 0, 1, 1, 0, 2, 2, 0);
        due(e, "just as many as it keeps", under, at(1, 0), "0112");
        due(e, "one more: the one over all goes", under, at(2, 0), "1223");
        due(e, "one alone, o", Edges.house("15o", EIGHT, 0, 0, 0, 0, 1, 0), at(0, 0), "12");
        due(e, "one alone, u", Edges.house("15u", EIGHT, 0, 0, 0, 0, 1, 0), at(0, 0), "12");
    }

    private static void windows(Edges e) {
        e.says(12, "Then its WINDOWS: the LAYER over all others is gone.");
        ChairSmells x = Edges.house("55o;55u", EIGHT, 1, 0, 0, 1, 1, 0, 1, 2, 0, 1, 0, 1, 1, 1, 1, 1, 2, 1);
        x.window(1, 0);
        x.window(1, 1);
        due(e, "behind the sittings of its hour: who came last", x, at(1, 0), "1201");
        due(e, "behind the sittings of its hour: who came first", x, at(1, 1), "1223");
        x.window(0, 0);
        due(e, "where there is no layer nothing goes", x, at(0, 0), "");
        due(e, "nor from those that come later", x, at(1, 0), "1201");
        x.window(2, 0);
        x.window(2, 0);
        x.window(2, 0);
        due(e, "more windows than layers", x, at(2, 0), "");
        due(e, "the other thing is as it was", x, at(2, 1), "1223");
        x.window(2, 2);
        due(e, "a thing that is not there", x, at(23, 1), "1223");
        ChairSmells fades = Edges.house("55o;55u", "92.;90.;93.", 0, 0, 0, 0, 1, 0, 0, 1, 1, 0, 2, 1);
        fades.window(0, 0);
        fades.window(0, 1);
        due(e, "what is left fades as its own smell does", fades, at(2, 0), "05");
        due(e, "what is left fades as its own smell does", fades, at(2, 1), "23");
        ChairSmells late = Edges.house("55o", "90.", 1, 0, 0);
        late.window(1, 0);
        late.sit(1, 0, 0);
        due(e, "a window told ahead of a sitting of its hour yet comes behind it", late, at(1, 0), "");
    }

    private static void nose(Edges e) {
        e.says(14, "A THING TELLS, behind an HOUR, of SMELLS of as many LAYERS as its NOSE is,"
                + " from the one over all others on.");
        int[] over = {128, 192, 224, 240, 248};
        int[] under = {8, 24, 56, 120, 248};
        for (int nose = 1; nose <= 5; nose++) {
            e.due("nose " + nose, allSit("5" + nose + "o", 0).tells(1, 0), over[nose - 1]);
            e.due("nose " + nose, allSit("5" + nose + "u", 0).tells(1, 0), under[nose - 1]);
            e.due("a nose for more than it keeps", allSit("1" + nose + "o", 0).tells(1, 0), 128);
            e.due("a nose for more than there is", Edges.house("5" + nose + "u", EIGHT, 2, 3, 0).tells(2, 0), 8);
            e.due("no layer", Edges.house("5" + nose + "u", EIGHT, 2, 3, 0).tells(1, 0), 0);
        }
    }

    private static void layers(Edges e) {
        e.says(12, "Behind an HOUR: how many LAYERS a THING has; the i-th, from over all others on:"
                + " of whom, how strong; NONE.");
        ChairSmells x = Edges.house("55o", EIGHT, 23, 0, 0, 0, 7, 0);
        due(e, "behind the first hour", x, at(0, 0), "78");
        due(e, "ahead of the last", x, at(22, 0), "78");
        due(e, "behind the last", x, at(23, 0), "0178");
        due(e, "of none", Check.house("55o", ""), at(23, 0), "");
        e.says(12, "LAYERS: how many (i = NONE), of whom the i-th is (0 to 4; NONE).");
        ChairSmells five = Edges.house("55u", EIGHT, 0, 3, 0, 0, 4, 0, 0, 5, 0, 0, 6, 0, 0, 7, 0);
        e.due("how many", five.layers(0, 0, NONE), 5);
        e.due("the first", five.layers(0, 0, 0), 3);
        e.due("the fifth", five.layers(0, 0, 4), 7);
        five.window(0, 0);
        e.due("how many", five.layers(0, 0, NONE), 4);
        e.due("no fifth", five.layers(0, 0, 4), NONE);
        e.says(12, "BAD.");
        for (int i : new int[] {-2, 5, Edges.MOST, Edges.LEAST}) {
            e.bad(Edges::full, "layers(0, 0, " + i + ")", y -> y.layers(0, 0, i));
        }
        for (int thing : new int[] {-1, 3, 5, Edges.MOST, Edges.LEAST}) {
            e.bad(Edges::rich, "layers(0, " + thing + ", 0)", y -> y.layers(0, thing, 0));
        }
        for (int hour : new int[] {-1, 24}) {
            e.bad(Edges::rich, "layers(" + hour + ", 0, 0)", y -> y.layers(hour, 0, 0));
        }
        e.bad(Edges::full, "a seventh thing", y -> y.layers(0, 6, 0));
        e.bad(Edges::empty, "no thing", y -> y.layers(0, 0, 0));
    }

    private static void strong(Edges e) {
        e.says(13, "How strong the i-th LAYER is (0 to 4; NONE).");
        ChairSmells five = Edges.house("55u", EIGHT, 0, 3, 0, 0, 4, 0, 0, 5, 0, 0, 6, 0, 0, 7, 0);
        e.due("the first", five.strong(0, 0, 0), 4);
        e.due("the fifth", five.strong(0, 0, 4), 8);
        five.window(0, 0);
        e.due("no fifth", five.strong(0, 0, 4), NONE);
        e.due("the least there is", Edges.house("11o", "98.", 0, 0, 0).strong(1, 0, 0), 1);
        e.says(13, "BAD.");
        for (int i : new int[] {-2, NONE, 5, Edges.MOST, Edges.LEAST}) {
            e.bad(Edges::full, "strong(0, 0, " + i + ")", y -> y.strong(0, 0, i));
        }
        for (int thing : new int[] {-1, 3, 5, Edges.MOST, Edges.LEAST}) {
            e.bad(Edges::rich, "strong(0, " + thing + ", 0)", y -> y.strong(0, thing, 0));
        }
        for (int hour : new int[] {-1, 24}) {
            e.bad(Edges::rich, "strong(" + hour + ", 0, 0)", y -> y.strong(hour, 0, 0));
        }
        e.bad(Edges::full, "a seventh thing", y -> y.strong(0, 6, 0));
        e.bad(Edges::empty, "no thing", y -> y.strong(0, 0, 0));
    }

    private static void tells(Edges e) {
        e.says(14, "What it TELLS, as bits; what all TELL together.");
        ChairSmells x = Edges.house("11o;11o;22o", EIGHT, 0, 0, 0, 0, 7, 1, 1, 7, 2, 1, 3, 2);
        e.due("the least bit", x.tells(0, 0), 1);
        e.due("the greatest bit", x.tells(0, 1), 128);
        e.due("all", x.tells(0, NONE), 129);
        e.due("two alike are one", x.tells(1, NONE), 137);
        ChairSmells all = Check.house("55o;55o", EIGHT);
        for (int p = 0; p < 8; p++) {
            all.sit(0, p, p / 4);
        }
        e.due("all eight", all.tells(0, NONE), 255);
        e.says(14, "What a THING TELLS, what all do (thing = NONE), as bits.");
        e.due("nothing", x.tells(0, 2), 0);
        e.due("one", x.tells(23, 1), 128);
        e.due("all do", x.tells(23, NONE), 137);
        e.due("no thing tells nothing", new ChairSmells().tells(23, NONE), 0);
        e.says(14, "BAD.");
        for (int thing : new int[] {-2, 3, 5, 6, Edges.MOST, Edges.LEAST}) {
            e.bad(Edges::rich, "tells(0, " + thing + ")", y -> y.tells(0, thing));
        }
        for (int hour : new int[] {-1, 24}) {
            e.bad(Edges::rich, "tells(" + hour + ", 0)", y -> y.tells(hour, 0));
            e.bad(Edges::rich, "tells(" + hour + ", NONE)", y -> y.tells(hour, NONE));
            e.bad(Edges::empty, "tells(" + hour + ", NONE) of nothing", y -> y.tells(hour, NONE));
        }
        e.bad(Edges::full, "a seventh thing", y -> y.tells(0, 6));
        e.bad(Edges::empty, "no thing", y -> y.tells(0, 0));
    }
}
