/** Promises 1 to 7 and what they lean on: a new object, texts, their faults, things and people. */
final class TextsEdges {
    private static final int NONE = Edges.NONE, BAD = Edges.BAD, NOT = Edges.NOT, FULL = Edges.FULL;
    private static final String SIX_THINGS = "11o;22u;33o;44u;55o;15u";
    private static final String EIGHT_PEOPLE = "10a;29.;32h;43a;54.;65b;76g;97.";

    static void all(Edges e) {
        aNewObject(e);
        type(e);
        wipe(e);
        undo(e);
        fault(e);
        faultPlaces(e);
        oneTooMany(e);
        between(e);
        withAFault(e);
        thingSigns(e);
        thing(e);
        personSigns(e);
        fast(e);
        soap(e);
        person(e);
    }

    private static ChairSmells typed(int text, String signs) {
        ChairSmells x = new ChairSmells();
        Check.text(x, text, signs);
        return x;
    }

    private static void fault(Edges e, int text, String signs, int want) {
        ChairSmells x = typed(text, signs);
        e.due("fault of " + signs, x.fault(text), want);
        e.due("how many there are in " + signs, x.count(text), want == NONE ? (signs.length() + 1) / 4 : 0);
    }

    private static void aNewObject(Edges e) {
        e.says(1, "No THINGS, nobody; all SHEETS are LOST.");
        ChairSmells x = new ChairSmells();
        for (int what = 0; what < 9; what++) {
            e.due("count " + what, x.count(what), 0);
        }
        e.due("no thing", x.thing(0, 0), BAD);
        e.due("nobody", x.person(0, 0), BAD);
        e.due("nothing tells", x.tells(23, NONE), 0);
        for (int s = 0; s < 4; s++) {
            e.due("sheet " + s, x.lose(s), Edges.NULL);
        }
        Check.text(x, 0, "11o");
        x.sheet(0, 0, 1);
        ChairSmells other = new ChairSmells();
        e.due("another new one has none of it", other.count(2), 0);
        e.due("nor its sheets", other.lose(0), Edges.NULL);
        e.says(1, "SHEETS 0 .. 3 are LOST (at first)");
        ChairSmells y = new ChairSmells();
        for (int s = 0; s < 4; s++) {
            e.due("lost " + s, y.put(s, 0, 0, 0), Edges.NULL);
        }
        e.due("no sheet ahead of the first", y.put(-1, 0, 0, 0), BAD);
        e.due("no fifth", y.put(4, 0, 0, 0), BAD);
    }

    private static void type(Edges e) {
        e.says(2, "A byte (0 to 255) comes behind a text: how many.");
        for (int text = 0; text < 2; text++) {
            int at = text;
            ChairSmells x = new ChairSmells();
            e.due("the least byte", x.type(text, 0), 1);
            e.due("the greatest byte", x.type(text, 255), 2);
            e.due("the other text has none", x.count(3 - text), 0);
            for (int b : new int[] {-1, 256, 256 + '1', '1' - 256, Edges.MOST, Edges.LEAST}) {
                e.bad(Edges::empty, "type(" + text + ", " + b + ")", y -> y.type(at, b));
            }
        }
        ChairSmells behind = typed(0, "21");
        behind.type(0, 'u');
        e.due("behind the others", behind.thing(0, 2), 1);
        e.says(2, "THINGS are a text of up to 23 bytes (text 0)");
        typeUntilFull(e, 0, 23);
        e.says(2, "PEOPLE are a text of up to 31 bytes (text 1)");
        typeUntilFull(e, 1, 31);
        e.says(2, "BAD; FULL.");
        for (int text : new int[] {-1, 2, Edges.MOST, Edges.LEAST}) {
            e.bad(Edges::empty, "type to text " + text, x -> x.type(text, '1'));
            e.bad(Edges::full, "type to text " + text, x -> x.type(text, '1'));
        }
        e.bad(Edges::full, "a byte too great, though full", x -> x.type(0, 256));
        e.bad(Edges::full, "a byte too small, though full", x -> x.type(1, -1));
        e.refused(Edges::full, "type to full things", x -> x.type(0, ';'), FULL);
        e.refused(Edges::full, "type to full people", x -> x.type(1, ';'), FULL);
    }

    private static void typeUntilFull(Edges e, int text, int most) {
        ChairSmells x = new ChairSmells();
        for (int n = 1; n <= most; n++) {
            e.due("type byte " + n, x.type(text, 200), n);
        }
        e.due("one more", x.type(text, 200), FULL);
        e.due("one more again", x.type(text, 49), FULL);
        e.due("bytes", x.count(2 + text), most);
        e.due("the other text is not full", x.type(1 - text, 200), 1);
        x.undo(text);
        e.due("there is room again", x.type(text, 200), most);
    }

    private static void wipe(Edges e) {
        e.says(3, "A text is empty: how many bytes it had.");
        ChairSmells x = Edges.full();
        e.due("full things", x.wipe(0), 23);
        e.due("full people", x.wipe(1), 31);
        for (int text = 0; text < 2; text++) {
            e.due("empty", x.wipe(text), 0);
            e.due("bytes", x.count(2 + text), 0);
            e.due("entries", x.count(text), 0);
            e.due("an empty one is well", x.fault(text), NONE);
            e.due("begins anew", x.type(text, '1'), 1);
            e.due("one byte", x.wipe(text), 1);
        }
        e.says(3, "BAD.");
        for (int text : new int[] {-1, 2, Edges.MOST, Edges.LEAST}) {
            e.bad(Edges::rich, "wipe(" + text + ")", y -> y.wipe(text));
        }
    }

    private static void undo(Edges e) {
        e.says(4, "The last byte of a text is undone: how many are left.");
        ChairSmells x = Edges.full();
        for (int left = 22; left >= 0; left--) {
            e.due("undo of things", x.undo(0), left);
            e.due("things", x.count(0), left % 4 == 3 ? (left + 1) / 4 : 0);
        }
        e.due("people have not changed", x.count(1), 8);
        e.due("undo of full people", x.undo(1), 30);
        e.due("not ended", x.fault(1), 30);
        e.due("typed again", x.type(1, '.'), 31);
        e.due("well again", x.count(1), 8);
        e.says(4, "BAD; NOT: it is empty.");
        for (int text : new int[] {-1, 2, Edges.MOST, Edges.LEAST}) {
            e.bad(Edges::rich, "undo(" + text + ")", y -> y.undo(text));
            e.bad(Edges::empty, "undo(" + text + ") with empty texts", y -> y.undo(text));
        }
        e.refused(Edges::empty, "undo of no things", y -> y.undo(0), NOT);
        e.refused(Edges::empty, "undo of no people", y -> y.undo(1), NOT);
        e.due("undone to the last, then once more", x.undo(0), NOT);
        e.due("wiped, then once more", x.wipe(1) == 31 ? x.undo(1) : 0, NOT);
    }

    private static void fault(Edges e) {
        e.says(5, "The FAULT of a text; NONE.");
        fault(e, 0, SIX_THINGS, NONE);
        fault(e, 1, EIGHT_PEOPLE, NONE);
        fault(e, 0, "x", 0);
        e.says(5, "BAD.");
        for (int text : new int[] {-1, 2, Edges.MOST, Edges.LEAST}) {
            e.bad(Edges::rich, "fault(" + text + ")", x -> x.fault(text));
        }
        e.says(5, "an empty one is well");
        fault(e, 0, "", NONE);
        fault(e, 1, "", NONE);
        ChairSmells x = typed(0, "x");
        x.undo(0);
        e.due("undone to the last", x.fault(0), NONE);
    }

    private static void faultPlaces(Edges e) {
        e.says(5, "The FAULT of a text is the place of the first byte with which it cannot go on");
        for (int at = 0; at < 23; at++) {
            fault(e, 0, SIX_THINGS.substring(0, at) + "x" + SIX_THINGS.substring(at + 1), at);
            fault(e, 0, SIX_THINGS.substring(0, at) + "xxx".substring(0, Math.min(3, 23 - at)), at);
        }
        for (int at = 0; at < 31; at++) {
            fault(e, 1, EIGHT_PEOPLE.substring(0, at) + "x" + EIGHT_PEOPLE.substring(at + 1), at);
        }
        for (int place = 0; place < 4; place++) {
            for (char sign : new char[] {0, 1, 32, 127, 128, 255}) {
                fault(e, 0, "11o;".substring(0, place) + sign, place);
                fault(e, 1, "10.;".substring(0, place) + sign, place);
            }
        }
        e.says(5, "of one that is not ended, its end");
        for (int n = 1; n < 23; n++) {
            fault(e, 0, SIX_THINGS.substring(0, n), n % 4 == 3 ? NONE : n);
        }
        for (int n = 1; n < 31; n++) {
            fault(e, 1, EIGHT_PEOPLE.substring(0, n), n % 4 == 3 ? NONE : n);
        }
    }

    /** A text is full with its last entry: what would be one too many is refused as it is typed. */
    private static void oneTooMany(Edges e) {
        e.says(5, "here also of the first byte of one too many.");
        ChairSmells x = Check.house(SIX_THINGS, EIGHT_PEOPLE);
        for (int text = 0; text < 2; text++) {
            e.due("one more is not taken", x.type(text, ';'), FULL);
            e.due("with as many as there may be it is well", x.fault(text), NONE);
        }
        e.due("six things", x.count(0), 6);
        e.due("eight people", x.count(1), 8);
    }

    private static void between(Edges e) {
        e.says(5, "with ; between them:");
        for (int text = 0; text < 2; text++) {
            String one = text == 0 ? "11o" : "10.";
            fault(e, text, one + ";" + one, NONE);
            fault(e, text, ";" + one, 0);
            fault(e, text, one + ";", 4);
            fault(e, text, one + ";;" + one, 4);
            fault(e, text, one + one, 3);
            for (char sign : new char[] {':', '<', ',', ' ', '\n'}) {
                fault(e, text, one + sign + one, 3);
            }
        }
    }

    private static void withAFault(Edges e) {
        e.says(5, "With a FAULT a text is as if it was empty.");
        for (String behind : new String[] {";", "x", ";1"}) {
            ChairSmells things = Edges.house("32o" + behind, "51.;30.", 0, 0, 0);
            e.due("no things", things.count(0), 0);
            e.due("thing", things.thing(0, 0), BAD);
            e.due("layers", things.layers(0, 0, NONE), BAD);
            e.due("all tell nothing", things.tells(0, NONE), 0);
            e.due("nobody sat at a thing", things.nowhere(23), 0);
            e.due("no thing to stand by", things.stand(0, 0), NONE);
            e.due("people are as they were", things.person(1, 0), 3);
            things.undo(0);
            ChairSmells people = Edges.house("32o", "51.;30." + behind, 0, 0, 0);
            e.due("nobody", people.count(1), 0);
            e.due("person", people.person(0, 0), BAD);
            e.due("no layer", people.layers(0, 0, NONE), 0);
            e.due("nobody sat", people.nowhere(23), 0);
            e.due("nobody may have sat", people.who(0), 0);
            e.due("hide", people.hide(0, 0, 0, NONE), BAD);
            for (int n = 0; n < behind.length(); n++) {
                people.undo(1);
            }
            e.due("without it as before", people.layers(0, 0, 0), 0);
        }
    }

    private static void thingSigns(Edges e) {
        e.says(6, "a figure, how many it KEEPS (1 to 5)");
        for (int keeps = 1; keeps <= 5; keeps++) {
            e.due("keeps " + keeps, typed(0, keeps + "1o").thing(0, 0), keeps);
        }
        for (String sign : new String[] {"0", "6", "9", "/", ":", "o"}) {
            fault(e, 0, sign + "1o", 0);
            fault(e, 0, "11o;" + sign + "1o", 4);
        }
        e.says(6, "a figure, its NOSE: of how many of these it can be told (1 to 5)");
        for (int nose = 1; nose <= 5; nose++) {
            e.due("nose " + nose, typed(0, "1" + nose + "u").thing(0, 1), nose);
        }
        for (String sign : new String[] {"0", "6", "9", "/", ":", "u"}) {
            fault(e, 0, "1" + sign + "o", 1);
            fault(e, 0, "11o;1" + sign + "o", 5);
        }
        e.says(6, "and a letter: o (the last is over the others), u (the last is under).");
        fault(e, 0, "11o", NONE);
        fault(e, 0, "11u", NONE);
        for (String sign : new String[] {"n", "p", "t", "v", "O", "U", "0", "1", ".", ";"}) {
            fault(e, 0, "11" + sign, 2);
        }
        e.due("over", Edges.house("22o", "90.;90.", 0, 0, 0, 0, 1, 0).layers(0, 0, 0), 1);
        e.due("under", Edges.house("22u", "90.;90.", 0, 0, 0, 0, 1, 0).layers(0, 0, 0), 0);
    }

    private static void thing(Edges e) {
        e.says(6, "6 at most (0 on),");
        ChairSmells x = typed(0, SIX_THINGS);
        for (int t = 0; t < 6; t++) {
            e.due("keeps", x.thing(t, 0), SIX_THINGS.charAt(4 * t) - '0');
            e.due("nose", x.thing(t, 1), SIX_THINGS.charAt(4 * t + 1) - '0');
            e.due("under", x.thing(t, 2), t % 2);
        }
        e.due("no seventh", x.thing(6, 0), BAD);
        e.due("none ahead of the first", x.thing(-1, 0), BAD);
        e.says(6, "How many it KEEPS (what = 0), its NOSE (1), whether the last is under (2: 0 o, 1 u) of a THING.");
        ChairSmells y = typed(0, "51o;15u");
        int[][] want = {{5, 1, 0}, {1, 5, 1}};
        for (int t = 0; t < 2; t++) {
            for (int what = 0; what < 3; what++) {
                e.due("thing(" + t + ", " + what + ")", y.thing(t, what), want[t][what]);
            }
        }
        e.says(6, "BAD.");
        for (int wrong : new int[] {-1, 3, Edges.MOST, Edges.LEAST}) {
            e.bad(Edges::rich, "thing(0, " + wrong + ")", z -> z.thing(0, wrong));
            e.bad(Edges::rich, "thing(" + wrong + ", 0)", z -> z.thing(wrong, 0));
        }
        e.bad(Edges::empty, "thing(0, 0) of none", z -> z.thing(0, 0));
        e.bad(Edges::full, "thing(6, 0) of six", z -> z.thing(6, 0));
    }

    private static void personSigns(Edges e) {
        e.says(7, "a figure, how STRONG one smells (1 to 9)");
        for (int strong = 1; strong <= 9; strong++) {
            e.due("strong " + strong, typed(1, strong + "0.").person(0, 0), strong);
            e.due("smells so", Edges.house("11o", strong + "0.", 0, 0, 0).strong(0, 0, 0), strong);
        }
        for (String sign : new String[] {"0", "/", ":", ".", "a"}) {
            fault(e, 1, sign + "0.", 0);
            fault(e, 1, "10.;" + sign + "0.", 4);
        }
        e.says(7, "and . or a letter a to h, whose SOAP it has (that number)");
        fault(e, 1, "10.", NONE);
        for (char sign = 'a'; sign <= 'h'; sign++) {
            String people = "10.;10.;10.;10.;10.;10.;10.;10" + sign;
            fault(e, 1, people, NONE);
            e.due("soap " + sign, typed(1, people).person(7, 2), sign - 'a');
        }
        for (String sign : new String[] {"`", "i", "A", "H", "-", "/", "0", ";"}) {
            fault(e, 1, "10" + sign, 2);
        }
    }

    private static void fast(Edges e) {
        e.says(7, "a figure, how FAST that goes (0 to 9: so much less each HOUR, 0 at least)");
        for (int fast = 0; fast <= 9; fast++) {
            ChairSmells x = Edges.house("11o", "9" + fast + ".", 0, 0, 0);
            e.due("fast " + fast, x.person(0, 1), fast);
            for (int hour = 0; hour < 24; hour++) {
                int left = 9 - fast * hour;
                e.due("behind hour " + hour, x.strong(hour, 0, 0), left > 0 ? left : NONE);
                e.due("behind hour " + hour, x.layers(hour, 0, NONE), left > 0 ? 1 : 0);
            }
        }
        ChairSmells weak = Edges.house("11o", "19.", 0, 0, 0);
        e.due("never below 0", weak.layers(1, 0, NONE), 0);
        e.due("no layer that is 0", weak.strong(1, 0, 0), NONE);
        for (String sign : new String[] {"/", ":", ".", "a"}) {
            fault(e, 1, "1" + sign + ".", 1);
            fault(e, 1, "10.;1" + sign + ".", 5);
        }
    }

    private static void soap(Edges e) {
        e.says(7, "it smells as that one, if that one is there.");
        ChairSmells x = Check.house("55o", "50b;30.;70a;10c;20h");
        int[] want = {1, 1, 0, 2, 4};
        for (int p = 0; p < want.length; p++) {
            e.due("of whom " + p + " smells", x.person(p, 2), want[p]);
            x.sit(p, p, 0);
            e.due("the layer of " + p, x.layers(p, 0, 0), want[p]);
        }
        ChairSmells grows = typed(1, "10h;10.;10.;10.;10.;10.;10.");
        e.due("with seven, h is not there", grows.person(0, 2), 0);
        for (char sign : ";10.".toCharArray()) {
            grows.type(1, sign);
        }
        e.due("with eight it is", grows.person(0, 2), 7);
        e.due("the next one is not there", typed(1, "10b").person(0, 2), 0);
        e.due("its own", typed(1, "10.;10b").person(1, 2), 1);
        e.due("the first", typed(1, "10.;10a").person(1, 2), 0);
    }

    private static void person(Edges e) {
        e.says(7, "8 at most (0 on),");
        ChairSmells x = typed(1, EIGHT_PEOPLE);
        int[] smells = {0, 1, 7, 0, 4, 1, 6, 7};
        for (int p = 0; p < 8; p++) {
            e.due("strong", x.person(p, 0), EIGHT_PEOPLE.charAt(4 * p) - '0');
            e.due("fast", x.person(p, 1), EIGHT_PEOPLE.charAt(4 * p + 1) - '0');
            e.due("of whom", x.person(p, 2), smells[p]);
        }
        e.due("no ninth", x.person(8, 0), BAD);
        e.due("none ahead of the first", x.person(-1, 0), BAD);
        e.says(7, "How STRONG (what = 0), how FAST (1), of whom it smells (2) of a PERSON.");
        ChairSmells y = typed(1, "90b;19.");
        int[][] want = {{9, 0, 1}, {1, 9, 1}};
        for (int p = 0; p < 2; p++) {
            for (int what = 0; what < 3; what++) {
                e.due("person(" + p + ", " + what + ")", y.person(p, what), want[p][what]);
            }
        }
        e.says(7, "BAD.");
        for (int wrong : new int[] {-1, 3, Edges.MOST, Edges.LEAST}) {
            e.bad(Edges::rich, "person(0, " + wrong + ")", z -> z.person(0, wrong));
        }
        for (int wrong : new int[] {-1, 5, Edges.MOST, Edges.LEAST}) {
            e.bad(Edges::rich, "person(" + wrong + ", 0)", z -> z.person(wrong, 0));
        }
        e.bad(Edges::empty, "person(0, 0) of nobody", z -> z.person(0, 0));
        e.bad(Edges::full, "person(8, 0) of eight", z -> z.person(8, 0));
    }
}
