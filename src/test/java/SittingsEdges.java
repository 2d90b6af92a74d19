/** Promises 8 to 11 and what they lean on: hours, sittings, windows, taking back, reading from a sheet. */
final class SittingsEdges {
    private static final int NONE = Edges.NONE, BAD = Edges.BAD, NOT = Edges.NOT, FULL = Edges.FULL;
    private static final String THREE = "90.;90.;90.";

    static void all(Edges e) {
        hours(e);
        sit(e);
        window(e);
        back(e);
        read(e);
        readAsLongAs(e);
        readRefused(e);
    }

    private static void hours(Edges e) {
        e.says(8, "HOURS are 0 to 23.");
        for (int hour : new int[] {0, 23}) {
            ChairSmells x = Check.house("55o", "90.");
            e.due("sit", x.sit(hour, 0, 0), 1);
            e.due("tells", x.tells(hour, 0), 1);
            e.due("tells all", x.tells(hour, NONE), 1);
            e.due("layers", x.layers(hour, 0, NONE), 1);
            e.due("strong", x.strong(hour, 0, 0), 9);
            e.due("nowhere", x.nowhere(hour), 0);
            e.due("known", x.known(hour), 1);
            e.due("hide", x.hide(0, hour, hour, NONE), NONE);
            e.due("frame", x.frame(0, 1, hour, hour, NONE), 0);
            e.due("air", x.air(1, hour, hour, NONE), 1);
            e.due("stand", x.stand(0, hour), 0);
            e.due("day", x.day(1, hour, 0), 1);
            e.due("smelt", x.smelt(hour, 0, 1), 1);
            e.due("window", x.window(hour, 0), 1);
            e.due("aired", x.tells(hour, 0), 0);
        }
        for (int hour : new int[] {-1, 24, Edges.MOST, Edges.LEAST}) {
            String at = " in hour " + hour;
            e.bad(Edges::rich, "sit" + at, x -> x.sit(hour, 0, 0));
            e.bad(Edges::rich, "window" + at, x -> x.window(hour, 0));
            e.bad(Edges::rich, "tells" + at, x -> x.tells(hour, 0));
            e.bad(Edges::rich, "tells all" + at, x -> x.tells(hour, NONE));
            e.bad(Edges::rich, "layers" + at, x -> x.layers(hour, 0, NONE));
            e.bad(Edges::rich, "strong" + at, x -> x.strong(hour, 0, 0));
            e.bad(Edges::rich, "nowhere" + at, x -> x.nowhere(hour));
            e.bad(Edges::rich, "known" + at, x -> x.known(hour));
            e.bad(Edges::rich, "hide" + at, x -> x.hide(0, hour, 0, NONE));
            e.bad(Edges::rich, "hide behind" + at, x -> x.hide(0, 0, hour, NONE));
            e.bad(Edges::rich, "frame" + at, x -> x.frame(0, 1, hour, 0, NONE));
            e.bad(Edges::rich, "frame behind" + at, x -> x.frame(0, 1, 0, hour, NONE));
            e.bad(Edges::rich, "air" + at, x -> x.air(1, hour, 0, NONE));
            e.bad(Edges::rich, "air behind" + at, x -> x.air(1, 0, hour, NONE));
            e.bad(Edges::rich, "smelt" + at, x -> x.smelt(hour, 0, 1));
            e.bad(Edges::rich, "stand" + at, x -> x.stand(0, hour));
            e.bad(Edges::rich, "day" + at, x -> x.day(1, hour, 0));
        }
    }

    private static void sit(Edges e) {
        e.says(8, "SITTINGS, 20 at most (0 on):");
        ChairSmells x = Check.house("55o", THREE);
        for (int n = 1; n <= 20; n++) {
            e.due("no sitting " + (n - 1) + " yet", x.who(n - 1), BAD);
            e.due("sit", x.sit(n, 0, 0), n);
            e.due("sitting " + (n - 1), x.who(n - 1), 7);
        }
        e.due("no sitting more", x.sit(0, 0, 0), FULL);
        e.due("nor again", x.sit(23, 7, 5), FULL);
        e.due("20 there are", x.count(4), 20);
        e.due("no sitting 20", x.who(20), BAD);
        e.due("no sitting -1", x.who(-1), BAD);
        e.says(8, "in an HOUR a PERSON (0 to 7) is at a THING (0 to 5).");
        ChairSmells bare = new ChairSmells();
        e.due("the least, though there is nobody", bare.sit(0, 0, 0), 1);
        e.due("the greatest, though there is nobody", bare.sit(23, 7, 5), 2);
        for (int wrong : new int[] {-1, 8, Edges.MOST, Edges.LEAST}) {
            e.bad(Edges::rich, "person " + wrong, y -> y.sit(0, wrong, 0));
        }
        for (int wrong : new int[] {-1, 6, Edges.MOST, Edges.LEAST}) {
            e.bad(Edges::rich, "thing " + wrong, y -> y.sit(0, 0, wrong));
        }
        e.says(8, "A SITTING more: how many.");
        ChairSmells z = Check.house("55o", THREE);
        e.due("the first", z.sit(3, 2, 0), 1);
        e.due("the same once more", z.sit(3, 2, 0), 2);
        e.due("smells so", z.tells(3, 0), 4);
        e.says(8, "BAD; FULL.");
        e.refused(Edges::full, "sit", y -> y.sit(0, 0, 0), FULL);
        e.bad(Edges::full, "an hour too great, though full", y -> y.sit(24, 0, 0));
        e.bad(Edges::full, "a person too great, though full", y -> y.sit(0, 8, 0));
        e.bad(Edges::full, "a thing too great, though full", y -> y.sit(0, 0, 6));
        e.bad(Edges::full, "an hour too small, though full", y -> y.sit(-1, 0, 0));
        e.bad(Edges::full, "a person too small, though full", y -> y.sit(0, -1, 0));
        e.bad(Edges::full, "a thing too small, though full", y -> y.sit(0, 0, -1));
    }

    private static void window(Edges e) {
        e.says(9, "WINDOWS, 8 at most (0 on):");
        ChairSmells x = new ChairSmells();
        for (int n = 1; n <= 8; n++) {
            e.due("window", x.window(23, 5), n);
        }
        e.due("no window more", x.window(0, 0), FULL);
        e.due("nor again", x.window(23, 5), FULL);
        e.due("8 there are", x.count(5), 8);
        e.says(9, "in an HOUR a THING (0 to 5) is aired.");
        ChairSmells bare = new ChairSmells();
        e.due("the least, though there is no thing", bare.window(0, 0), 1);
        e.due("the greatest, though there is no thing", bare.window(23, 5), 2);
        for (int wrong : new int[] {-1, 6, Edges.MOST, Edges.LEAST}) {
            e.bad(Edges::rich, "thing " + wrong, y -> y.window(0, wrong));
        }
        ChairSmells aired = Edges.house("11o;11o;11o;11o;11o;11o", "90.", 0, 0, 0, 0, 0, 5);
        aired.window(23, 5);
        e.due("the last thing ahead of the last hour", aired.tells(22, 5), 1);
        e.due("the last thing behind it", aired.tells(23, 5), 0);
        e.due("no other thing", aired.tells(23, 0), 1);
        aired.window(0, 0);
        e.due("the first thing in the first hour", aired.tells(0, 0), 0);
        e.says(9, "A WINDOW more: how many.");
        ChairSmells y = Edges.house("55o", THREE, 0, 0, 0, 0, 1, 0, 0, 2, 0);
        e.due("the first", y.window(1, 0), 1);
        e.due("two layers are left", y.layers(1, 0, NONE), 2);
        e.due("the same once more", y.window(1, 0), 2);
        e.due("one layer is left", y.layers(1, 0, NONE), 1);
        e.says(9, "BAD; FULL.");
        e.refused(Edges::full, "window", z -> z.window(0, 0), FULL);
        e.bad(Edges::full, "an hour too great, though full", z -> z.window(24, 0));
        e.bad(Edges::full, "an hour too small, though full", z -> z.window(-1, 0));
        e.bad(Edges::full, "a thing too great, though full", z -> z.window(0, 6));
        e.bad(Edges::full, "a thing too small, though full", z -> z.window(0, -1));
    }

    private static void back(Edges e) {
        e.says(10, "The last SITTING (what = 0), WINDOW (1) is undone: how many are left.");
        ChairSmells x = Edges.full();
        for (int left = 19; left >= 0; left--) {
            e.due("back of sittings", x.back(0), left);
        }
        for (int left = 7; left >= 0; left--) {
            e.due("back of windows", x.back(1), left);
        }
        e.due("nothing sat", x.tells(23, NONE), 0);
        ChairSmells full = Edges.full();
        full.back(0);
        full.back(1);
        e.due("there is room for a sitting again", full.sit(0, 0, 0), 20);
        e.due("there is room for a window again", full.window(0, 0), 8);
        ChairSmells y = Edges.house("55o", THREE, 9, 0, 0, 2, 1, 0);
        y.window(9, 0);
        y.window(2, 0);
        e.due("the last told, not the latest hour", y.back(0), 1);
        e.due("behind hour 8", y.tells(8, 0), 0);
        e.due("the last told, not the latest hour", y.back(1), 1);
        y.sit(2, 2, 0);
        e.due("not aired in hour 2", y.tells(2, 0), 4);
        e.due("aired in hour 9", y.tells(9, 0), 4);
        e.says(10, "BAD; NOT: there is none.");
        for (int what : new int[] {-1, 2, Edges.MOST, Edges.LEAST}) {
            e.bad(Edges::rich, "back(" + what + ")", z -> z.back(what));
            e.bad(Edges::empty, "back(" + what + ") of none", z -> z.back(what));
        }
        e.refused(Edges::empty, "back(0) of none", z -> z.back(0), NOT);
        e.refused(Edges::empty, "back(1) of none", z -> z.back(1), NOT);
        e.due("no sitting, though a window", y.back(0) + y.back(0) == 1 ? y.back(0) : 0, NOT);
        e.due("the window is there yet", y.back(1), 0);
        e.due("no window more", y.back(1), NOT);
    }

    private static ChairSmells withSheet(int form, int... items) {
        ChairSmells x = Check.house("55o", THREE);
        Check.sheet(x, 0, form, items);
        return x;
    }

    private static void read(Edges e) {
        e.says(11, "SITTINGS from a SHEET: its items, three for each (HOUR, PERSON, THING), as many as are whole,");
        for (int form = 0; form < 3; form++) {
            for (int n = 0; n <= 60; n++) {
                ChairSmells x = withSheet(form, new int[n]);
                e.due("read of " + n + " items", x.read(0), n / 3);
                e.due("sittings", x.count(4), n / 3);
            }
        }
        ChairSmells x = withSheet(1, 23, 2, 0, 0, 1, 0);
        e.due("read", x.read(0), 2);
        e.due("hour 0, person 1, thing 0", x.tells(22, 0), 2);
        e.due("hour 23, person 2, thing 0", x.tells(23, 0), 6);
        e.due("the sheet is as it was", x.get(0, 1, 0), 23);
        e.due("behind those that there are", x.read(0), 2);
        e.due("behind those that there are", x.count(4), 4);
        ChairSmells last = withSheet(2, 0, 7, 5);
        last.lose(1);
        last.sheet(3, 2, 3);
        e.due("the last sheet", last.read(3), 1);
        e.due("the greatest numbers", last.read(0), 1);
    }

    private static void readAsLongAs(Edges e) {
        e.says(11, "as long as each may be: how many.");
        int[][] wrong = {{24, 0, 0}, {-1, 0, 0}, {0, 8, 0}, {0, -1, 0}, {0, 0, 6}, {0, 0, -1}};
        for (int form = 0; form < 3; form++) {
            for (int[] w : wrong) {
                ChairSmells none = withSheet(form, w[0], w[1], w[2], 1, 1, 0);
                e.due("none ahead of the wrong one", none.read(0), 0);
                e.due("none came", none.count(4), 0);
                ChairSmells one = withSheet(form, 1, 1, 0, w[0], w[1], w[2], 2, 2, 0);
                e.due("one ahead of the wrong one", one.read(0), 1);
                e.due("one came", one.count(4), 1);
                e.due("that one", one.tells(23, 0), 2);
            }
        }
        ChairSmells room = withSheet(0, new int[60]);
        e.due("all that there may be", room.read(0), 20);
        e.due("no room", room.read(0), 0);
        room.back(0);
        room.back(0);
        e.due("room for two", room.read(0), 2);
        e.due("full", room.count(4), 20);
        ChairSmells twenty = Edges.full();
        twenty.sheet(0, 0, 3);
        e.due("none comes where it is full", twenty.read(0), 0);
        e.due("that is no finding", twenty.count(8), 5);
    }

    private static void readRefused(Edges e) {
        e.says(11, "BAD; NULL.");
        for (int s : new int[] {-1, 4, Edges.MOST, Edges.LEAST}) {
            e.bad(Edges::rich, "read(" + s + ")", x -> x.read(s));
        }
        e.finds(Edges::rich, "read(3), lost", x -> x.read(3), Edges.NULL);
        e.finds(Edges::full, "read(3), lost, though full", x -> x.read(3), Edges.NULL);
        ChairSmells x = withSheet(0, 0, 0, 0);
        x.lose(0);
        e.due("lost again", x.read(0), Edges.NULL);
        e.due("none came", x.count(4), 0);
    }
}
