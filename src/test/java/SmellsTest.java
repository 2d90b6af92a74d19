/** Promises 12 to 17: layers, how strong they are, what is told, nowhere, last and together. */
public final class SmellsTest {
    private static final Check CHECK = new Check();

    public static void main(String[] args) {
        lastOver();
        lastUnder();
        fading();
        soapAndStrength();
        windows();
        hoursAsTold();
        whoIsNotThere();
        nowhere();
        lastTold();
        together();
        wrongNumbers();
        CHECK.end();
    }

    private static void due(String call, long got, long want) {
        CHECK.due(call, got, want);
    }

    /** The layers behind an hour as figures, smell and strength each, from over all others on. */
    private static void layers(String what, ChairSmells x, int hour, int thing, String want) {
        due(what + ": how many", x.layers(hour, thing, ChairSmells.NONE), want.length() / 2);
        StringBuilder got = new StringBuilder();
        for (int i = 0; i < x.layers(hour, thing, ChairSmells.NONE); i++) {
            got.append(x.layers(hour, thing, i)).append(x.strong(hour, thing, i));
        }
        CHECK.same(what, got.toString(), want);
        for (int i = want.length() / 2; i < 5; i++) {
            due(what + ": none", x.layers(hour, thing, i), ChairSmells.NONE);
            due(what + ": none", x.strong(hour, thing, i), ChairSmells.NONE);
        }
    }

    private static ChairSmells sat(String things, String people, int... rows) {
        ChairSmells x = Check.house(things, people);
        for (int i = 0; i + 2 < rows.length; i += 3) {
            x.sit(rows[i], rows[i + 1], rows[i + 2]);
        }
        return x;
    }

    private static void lastOver() {
        ChairSmells x = sat("32o", "10.;20.;30.;40.", 1, 0, 0, 1, 1, 0, 2, 2, 0, 3, 3, 0, 4, 2, 0);
        layers("nothing yet", x, 0, 0, "");
        layers("in one hour as told", x, 1, 0, "1201");
        layers("three", x, 2, 0, "231201");
        layers("the farthest goes", x, 3, 0, "342312");
        layers("one of that smell comes anew", x, 4, 0, "233412");
        due("as many as its nose", x.tells(3, 0), 12);
        due("as many as its nose", x.tells(4, 0), 12);
    }

    private static void lastUnder() {
        ChairSmells x = sat("32u", "10.;20.;30.;40.", 1, 0, 0, 1, 1, 0, 2, 2, 0, 3, 3, 0, 4, 1, 0);
        layers("the last under", x, 1, 0, "0112");
        layers("three", x, 2, 0, "011223");
        layers("the farthest is over all", x, 3, 0, "122334");
        layers("one of that smell comes anew", x, 4, 0, "233412");
        due("told from over all on", x.tells(2, 0), 3);
        due("a nose for more than there is", sat("35u", "10.", 0, 0, 0).tells(0, 0), 1);
    }

    private static void fading() {
        ChairSmells x = sat("55o", "52.;33.;90.", 1, 0, 0, 1, 1, 0, 1, 2, 0);
        layers("as strong as they are", x, 1, 0, "291305");
        layers("less, and gone at 0", x, 2, 0, "2903");
        layers("less", x, 3, 0, "2901");
        layers("gone below 0", x, 4, 0, "29");
        layers("0 fast stays", x, 23, 0, "29");
    }

    private static void soapAndStrength() {
        ChairSmells x = sat("55o", "52.;93a;10.", 1, 1, 0);
        layers("as strong as the sitter, of the soap's smell", x, 1, 0, "09");
        layers("as fast as the smell's", x, 2, 0, "07");
        x.sit(2, 2, 0);
        x.sit(2, 0, 0);
        layers("the smell's own one goes", x, 2, 0, "0521");
    }

    private static void windows() {
        ChairSmells x = sat("55o;55u", "90.;90.;90.", 1, 0, 0, 1, 1, 0, 1, 2, 0, 1, 0, 1, 1, 1, 1, 1, 2, 1);
        x.window(1, 0);
        x.window(2, 1);
        x.window(2, 1);
        layers("behind the sittings of the hour", x, 1, 0, "1909");
        layers("another hour", x, 1, 1, "091929");
        layers("over all others, twice", x, 2, 1, "29");
        x.window(0, 0);
        x.window(3, 1);
        x.window(3, 1);
        layers("no layer, no matter", x, 1, 0, "1909");
        layers("no layer, no matter", x, 3, 1, "");
    }

    private static void hoursAsTold() {
        ChairSmells x = sat("55o", "90.;90.;90.", 5, 0, 0, 2, 1, 0, 5, 2, 0, 2, 2, 0);
        layers("hours first, then as told", x, 2, 0, "2919");
        layers("hours first, then as told", x, 5, 0, "290919");
    }

    private static void whoIsNotThere() {
        ChairSmells x = sat("55o", "90.", 1, 7, 0, 1, 0, 5, 2, 0, 0);
        due("persons, things that are not there", x.tells(1, -1), 0);
        due("one that is", x.tells(2, -1), 1);
        x.type(1, ';');
        due("with a fault there is nobody", x.tells(2, -1), 0);
        due("but a thing", x.tells(2, 0), 0);
    }

    private static void nowhere() {
        ChairSmells x = sat("21o;11o", "90.;90.;11.;90a", 1, 0, 0, 2, 1, 0, 3, 2, 1, 3, 3, 5, 4, 7, 0);
        due("nobody sat", x.nowhere(0), 0);
        due("told", x.nowhere(1), 0);
        due("a layer that no nose tells", x.nowhere(2), 1);
        due("nobody at a thing that is not there", x.nowhere(3), 1);
        due("gone", x.nowhere(4), 5);
        x.sit(5, 3, 1);
        due("the soap tells of the other", x.nowhere(5), 4);
    }

    private static void lastTold() {
        ChairSmells x = sat("21o;11o", "90.;91.;90.", 1, 0, 0, 2, 1, 0, 20, 0, 1);
        due("until another is over it", x.last(0, 1), 10);
        due("and again when that is gone", x.last(0, 0), 23);
        due("never", x.last(0, 2), ChairSmells.NONE);
        due("to the end", x.last(1, 0), 23);
        due("never", x.last(1, 1), ChairSmells.NONE);
        due("no such thing", x.last(2, 0), ChairSmells.BAD);
        due("no such thing", x.last(-1, 0), ChairSmells.BAD);
        due("no such smell", x.last(0, -1), ChairSmells.BAD);
        due("no such smell", x.last(0, 8), ChairSmells.BAD);
    }

    private static void together() {
        ChairSmells x = sat("55o;55o", "90.;90.;90.;90.", 1, 2, 0, 1, 0, 0, 2, 3, 1, 2, 1, 1, 3, 2, 1, 3, 0, 1);
        due("how many", x.together(ChairSmells.NONE), 2);
        due("the least first", x.together(0), 2);
        due("then", x.together(1), 11);
        due("no more", x.together(2), ChairSmells.NONE);
        due("no more", x.together(27), ChairSmells.NONE);
        due("bad", x.together(28), ChairSmells.BAD);
        due("bad", x.together(-2), ChairSmells.BAD);
        x.sit(4, 3, 0);
        due("once apart", x.together(ChairSmells.NONE), 1);
        due("the other", x.together(0), 2);
        ChairSmells all = sat("55o", "90.;90.;90.;90.;90.", 0, 0, 0, 0, 1, 0, 0, 2, 0, 0, 3, 0, 0, 4, 0);
        due("all five", all.together(ChairSmells.NONE), 10);
        due("the last", all.together(9), 28);
    }

    private static void wrongNumbers() {
        ChairSmells x = sat("55o", "90.", 0, 0, 0);
        int[][] wrong = {{-1, 0, 0}, {24, 0, 0}, {0, -1, 0}, {0, 1, 0}, {0, 0, 5}, {0, 0, -2}};
        for (int[] w : wrong) {
            due("layers", x.layers(w[0], w[1], w[2]), ChairSmells.BAD);
            due("strong", x.strong(w[0], w[1], w[2]), ChairSmells.BAD);
        }
        due("strong has no NONE", x.strong(0, 0, ChairSmells.NONE), ChairSmells.BAD);
        due("layers has", x.layers(0, 0, ChairSmells.NONE), 1);
        due("tells", x.tells(-1, 0), ChairSmells.BAD);
        due("tells", x.tells(24, -1), ChairSmells.BAD);
        due("tells", x.tells(0, 1), ChairSmells.BAD);
        due("tells", x.tells(0, -2), ChairSmells.BAD);
        due("nowhere", x.nowhere(-1), ChairSmells.BAD);
        due("nowhere", x.nowhere(24), ChairSmells.BAD);
    }
}
