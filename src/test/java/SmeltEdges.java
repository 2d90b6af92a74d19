/** Promises 22 to 26 and what they lean on: what was smelt, and who was where from it. */
final class SmeltEdges {
    private static final int NONE = Edges.NONE, BAD = Edges.BAD, FULL = Edges.FULL;
    private static final int ALL = 0xffffff;
    private static final String EIGHT = "90.;90.;90.;90.;90.;90.;90.;90.";

    static void all(Edges e) {
        smelt(e);
        forget(e);
        whenHours(e);
        when(e);
        whoPersons(e);
        who(e);
        standThings(e);
        stand(e);
    }

    private static void smelt(Edges e) {
        e.says(22, "SMELT, 8 at most: behind an HOUR a THING (0 to 5) TOLD of just a set of SMELLS (bits).");
        ChairSmells x = new ChairSmells();
        e.due("the least of all", x.smelt(0, 0, 0), 1);
        e.due("the greatest of all, though there is nothing", x.smelt(23, 5, 255), 2);
        for (int n = 3; n <= 8; n++) {
            e.due("smelt", x.smelt(0, 0, 1), n);
        }
        e.due("no more", x.smelt(0, 0, 1), FULL);
        e.due("8 there are", x.count(6), 8);
        for (int thing : new int[] {-1, 6, Edges.MOST, Edges.LEAST}) {
            e.bad(Edges::rich, "thing " + thing, y -> y.smelt(0, thing, 0));
        }
        for (int smells : new int[] {-1, 256, Edges.MOST, Edges.LEAST}) {
            e.bad(Edges::rich, "smells " + smells, y -> y.smelt(0, 0, smells));
        }
        ChairSmells just = Edges.house("55o", EIGHT, 0, 0, 0, 1, 7, 0);
        just.smelt(0, 0, 1);
        e.due("just so", just.who(0), 1);
        just.smelt(1, 0, 129);
        e.due("just so an hour later", just.who(0), 1);
        just.smelt(1, 0, 1);
        e.due("not just so: one fewer", just.who(0), 0);
        ChairSmells gone = Edges.house("11o;11o", EIGHT, 0, 0, 1);
        gone.smelt(0, 1, 0);
        e.due("a thing with one at it did not tell of nothing", gone.when(0, 0), 0);
        for (int n = 0; n < 4; n++) {
            gone.undo(0);
        }
        e.due("a thing that is there no more did", gone.when(0, 0), ALL);
        e.says(22, "SMELT more: how many.");
        ChairSmells two = Check.house("11o", EIGHT);
        e.due("the first", two.smelt(3, 0, 1), 1);
        e.due("the same once more", two.smelt(3, 0, 1), 2);
        e.due("one that cannot be with it", two.smelt(3, 0, 2), 3);
        e.says(22, "BAD; FULL.");
        e.refused(Edges::full, "smelt", y -> y.smelt(0, 0, 0), FULL);
        e.bad(Edges::full, "an hour too great, though full", y -> y.smelt(24, 0, 0));
        e.bad(Edges::full, "an hour too small, though full", y -> y.smelt(-1, 0, 0));
        e.bad(Edges::full, "a thing too great, though full", y -> y.smelt(0, 6, 0));
        e.bad(Edges::full, "a thing too small, though full", y -> y.smelt(0, -1, 0));
        e.bad(Edges::full, "smells too great, though full", y -> y.smelt(0, 0, 256));
        e.bad(Edges::full, "smells too small, though full", y -> y.smelt(0, 0, -1));
    }

    private static void forget(Edges e) {
        e.says(23, "All SMELT are forgotten: how many.");
        ChairSmells x = Edges.full();
        e.due("all", x.forget(), 8);
        e.due("none", x.forget(), 0);
        e.due("none", x.count(6), 0);
        e.due("none stands against anybody", x.who(0), 255);
        e.due("sittings are as they were", x.count(4), 20);
        e.due("there is room again", x.smelt(0, 0, 0), 1);
        e.due("one", x.forget(), 1);
        e.due("none at first", new ChairSmells().forget(), 0);
    }

    private static void whenHours(Edges e) {
        e.says(24, "WHEN of a PERSON and a THING: HOURS in each of which, by one SITTING more of it there,"
                + " told behind all others, all that was SMELT comes out so, as bits (HOURS 0 to 23).");
        ChairSmells x = Check.house("11o;11o", EIGHT);
        e.due("nothing was smelt: all hours", x.when(0, 0), ALL);
        x.smelt(23, 0, 1);
        e.due("up to the last hour", x.when(0, 0), ALL);
        x.smelt(22, 0, 0);
        e.due("in the last hour alone", x.when(0, 0), 1 << 23);
        e.due("another person", x.when(1, 0), 0);
        e.due("at another thing", x.when(0, 1), 0);
        x.forget();
        x.smelt(0, 0, 1);
        e.due("in the first hour alone", x.when(0, 0), 1);
        x.smelt(23, 1, 1);
        e.due("no one sitting does both", x.when(0, 0), 0);
        x.sit(23, 0, 1);
        e.due("with what was told", x.when(0, 0), 1);
        ChairSmells behind = Edges.house("11o", EIGHT, 5, 1, 0);
        behind.smelt(5, 0, 1);
        e.due("told behind all others of its hour", behind.when(0, 0), 1 << 5);
        behind.forget();
        behind.smelt(5, 0, 2);
        e.due("before it or later, not in it", behind.when(0, 0), ALL ^ 1 << 5);
        behind.smelt(6, 5, 0);
        e.due("a thing that is not there told of nothing", behind.when(0, 0), ALL ^ 1 << 5);
        behind.smelt(6, 5, 1);
        e.due("a thing that is not there told of something: never", behind.when(0, 0), 0);
        ChairSmells full = Check.house("55o", EIGHT);
        for (int n = 0; n < 20; n++) {
            full.sit(3, 1, 0);
        }
        full.smelt(23, 0, 3);
        e.due("one more than there may be told", full.when(0, 0), ALL);
        e.due("one more than there may be told", full.when(1, 0), 0);
        e.due("none of them stays", full.count(4), 20);
    }

    private static void when(Edges e) {
        e.says(24, "WHEN, as bits.");
        ChairSmells x = Check.house("11o", EIGHT);
        x.smelt(12, 0, 128);
        e.due("thirteen hours", x.when(7, 0), 0x1fff);
        e.says(24, "BAD.");
        for (int person : new int[] {-1, 5, 7, 8, Edges.MOST, Edges.LEAST}) {
            e.bad(Edges::rich, "when(" + person + ", 0)", y -> y.when(person, 0));
        }
        for (int thing : new int[] {-1, 3, 5, 6, Edges.MOST, Edges.LEAST}) {
            e.bad(Edges::rich, "when(0, " + thing + ")", y -> y.when(0, thing));
        }
        e.bad(Edges::full, "a ninth", y -> y.when(8, 0));
        e.bad(Edges::full, "a seventh thing", y -> y.when(0, 6));
        e.bad(Edges::empty, "nobody", y -> y.when(0, 0));
        e.bad(() -> Check.house("11o", ""), "nobody at a thing", y -> y.when(0, 0));
        e.bad(() -> Check.house("", "90."), "one at no thing", y -> y.when(0, 0));
    }

    private static void whoPersons(Edges e) {
        e.says(25, "WHO of a SITTING: PERSONS who may have sat there, in place of the told one, likewise, as bits.");
        ChairSmells x = Edges.house("11o;11o", EIGHT, 5, 7, 0, 6, 0, 1);
        e.due("nothing was smelt: anybody", x.who(0), 255);
        x.smelt(5, 0, 128);
        e.due("the last of all", x.who(0), 128);
        e.due("of another sitting anybody", x.who(1), 255);
        x.smelt(5, 1, 1);
        e.due("nobody, where another thing cannot have told so", x.who(0), 0);
        x.forget();
        x.smelt(5, 0, 1);
        e.due("not the told one", x.who(0), 1);
        e.due("nobody may have sat elsewhere by that", x.who(1), 0);
        ChairSmells place = Edges.house("21o", EIGHT, 5, 0, 0, 5, 1, 0);
        place.smelt(5, 0, 2);
        // who comes in the first's place is covered by 1; with 1 in it, 1 comes anew
        e.due("in its place, not behind all others", place.who(0), 255);
        e.due("in its place, the last of its hour", place.who(1), 2);
        ChairSmells away = Edges.house("11o", "90.;90.", 5, 7, 0, 5, 1, 5);
        e.due("in place of one who is not there: those that there are", away.who(0), 3);
        e.due("at a thing that is not there", away.who(1), 3);
        away.smelt(5, 0, 2);
        e.due("in place of one who is not there", away.who(0), 2);
        ChairSmells soap = Edges.house("11o", "90.;90a;90.", 5, 2, 0);
        soap.smelt(5, 0, 1);
        e.due("all who smell so", soap.who(0), 3);
        soap.forget();
        soap.smelt(5, 0, 2);
        e.due("whose own number nobody smells of", soap.who(0), 0);
        ChairSmells none = Edges.house("11o", "", 5, 0, 0);
        e.due("nobody is there", none.who(0), 0);
        e.due("the sitting is as it was told", place.tells(5, 0), 2);
    }

    private static void who(Edges e) {
        e.says(25, "WHO, as bits.");
        e.due("all eight", Edges.house("11o", EIGHT, 0, 0, 0).who(0), 255);
        e.due("one", Edges.house("11o", "90.", 0, 0, 0).who(0), 1);
        e.says(25, "BAD: no such SITTING.");
        for (int sitting : new int[] {-1, 7, 20, Edges.MOST, Edges.LEAST}) {
            e.bad(Edges::rich, "who(" + sitting + ")", x -> x.who(sitting));
        }
        e.bad(Edges::full, "who(20)", x -> x.who(20));
        e.bad(Edges::empty, "who(0)", x -> x.who(0));
        ChairSmells back = Edges.full();
        e.due("the last", back.who(19) >= 0 ? 1 : 0, 1);
        back.back(0);
        e.due("undone", back.who(19), BAD);
    }

    private static void standThings(Edges e) {
        e.says(26, "STAND: the THING by which, behind a told HOUR, of those PERSONS who may have had a SITTING"
                + " the greatest number by whom it TELLS alike is least, of like ones the least.");
        ChairSmells x = Edges.house("11o;11o;11o;11o;11o;11o", EIGHT, 5, 0, 5);
        e.due("the thing itself, the last", x.stand(0, 5), 5);
        e.due("ahead of it all tell alike: the first", x.stand(0, 4), 0);
        e.due("to the last hour", x.stand(0, 23), 5);
        x.sit(6, 1, 5);
        e.due("covered by the next: all alike, the first", x.stand(0, 6), 0);
        e.due("of the last sitting", x.stand(1, 6), 5);
        e.due("of the last sitting, ahead of it", x.stand(1, 5), 0);
        ChairSmells first = Edges.house("11o;11o", EIGHT, 0, 0, 1);
        e.due("in the first hour", first.stand(0, 0), 1);
        ChairSmells groups = Edges.house("11o;11o", "90.;90a;90.;90c;90c", 5, 0, 1);
        e.due("three alike at most, not five", groups.stand(0, 5), 1);
        groups.smelt(5, 1, 4);
        e.due("of those who may have sat all are alike: the first", groups.stand(0, 5), 0);
        groups.forget();
        groups.smelt(5, 1, 128);
        e.due("nobody may have sat: the first", groups.stand(0, 5), 0);
        ChairSmells fading = Edges.house("11o;11o", "90.;11.;11.", 5, 0, 1);
        e.due("in the hour each tells of another", fading.stand(0, 5), 1);
        e.due("later two tell of nothing: alike, but fewer than three", fading.stand(0, 6), 1);
        Check.text(fading, 1, "11.;11.;11.");
        e.due("later all tell of nothing: the first", fading.stand(0, 6), 0);
        ChairSmells one = Edges.house("11o;11o", "90.", 5, 0, 1);
        e.due("one person is alike to itself everywhere: the first", one.stand(0, 5), 0);
        ChairSmells nobody = Edges.house("11o;11o", "", 5, 0, 1);
        e.due("nobody is there: the first", nobody.stand(0, 5), 0);
        e.due("the sitting is as it was told", x.tells(5, 5), 1);
    }

    private static void stand(Edges e) {
        e.says(26, "STAND; NONE: there are no THINGS.");
        e.due("no things", Edges.house("", EIGHT, 0, 0, 0).stand(0, 0), NONE);
        e.due("things with a fault", Edges.house("11o;", EIGHT, 0, 0, 0).stand(0, 0), NONE);
        e.due("one thing", Edges.house("11o", EIGHT, 0, 0, 0).stand(0, 0), 0);
        e.says(26, "BAD: no such SITTING.");
        for (int sitting : new int[] {-1, 7, 20, Edges.MOST, Edges.LEAST}) {
            e.bad(Edges::rich, "stand(" + sitting + ", 0)", x -> x.stand(sitting, 0));
        }
        for (int hour : new int[] {-1, 24, Edges.MOST, Edges.LEAST}) {
            e.bad(Edges::rich, "stand(0, " + hour + ")", x -> x.stand(0, hour));
            e.bad(() -> Edges.house("", EIGHT, 0, 0, 0), "no things, hour " + hour, x -> x.stand(0, hour));
        }
        e.bad(Edges::full, "stand(20, 0)", x -> x.stand(20, 0));
        e.bad(Edges::empty, "neither sitting nor thing", x -> x.stand(0, 0));
    }
}
