import java.util.List;
import java.util.Random;

/** Houses by a seed: every answer of a smell, a plan, a guess or a chance is as the model has it. */
public final class ModelTest {
    private static final Check CHECK = new Check();

    public static void main(String[] args) {
        int houses = args.length > 0 ? Integer.parseInt(args[0]) : 150;
        for (int seed = 0; seed < houses && !CHECK.hasWrong(); seed++) {
            compare(seed);
        }
        CHECK.end();
    }

    private static String things(Random random, int n) {
        StringBuilder text = new StringBuilder();
        for (int t = 0; t < n; t++) {
            text.append(t == 0 ? "" : ";").append(1 + random.nextInt(5)).append(1 + random.nextInt(5))
                    .append("ou".charAt(random.nextInt(2)));
        }
        return text.toString();
    }

    private static String people(Random random, int n) {
        StringBuilder text = new StringBuilder();
        for (int p = 0; p < n; p++) {
            text.append(p == 0 ? "" : ";").append(1 + random.nextInt(9))
                    .append(random.nextInt(3) == 0 ? random.nextInt(10) : random.nextInt(2))
                    .append(random.nextInt(3) == 0 ? (char) ('a' + random.nextInt(8)) : '.');
        }
        return text.toString();
    }

    private static void compare(int seed) {
        Random random = new Random(seed);
        String things = things(random, random.nextInt(7));
        String people = people(random, random.nextInt(9));
        ChairSmells x = Check.house(things, people);
        Model m = new Model(things, people);
        int hours = 1 + random.nextInt(24);
        int spread = 1 + random.nextInt(6);
        for (int n = random.nextInt(21); n > 0; n--) {
            int[] s = {random.nextInt(hours), random.nextInt(8), random.nextInt(spread)};
            x.sit(s[0], s[1], s[2]);
            m.sittings.add(s);
        }
        for (int n = random.nextInt(9); n > 0; n--) {
            int[] w = {random.nextInt(hours), random.nextInt(spread)};
            x.window(w[0], w[1]);
            m.windows.add(w);
        }
        for (int n = random.nextInt(4); n > 0; n--) {
            int hour = random.nextInt(24);
            int thing = random.nextInt(6);
            int[] s = {hour, thing, random.nextInt(8) == 0 ? random.nextInt(256) : m.tells(hour, thing)};
            x.smelt(s[0], s[1], s[2]);
            m.smelt.add(s);
        }
        String house = "seed " + seed + " (" + things + " | " + people + "): ";
        long before = x.digest();
        smells(x, m, house);
        plans(x, m, house, random);
        guesses(x, m, house, random);
        CHECK.due(house + "nothing is changed by asking", x.digest(), before);
        CHECK.due(house + "digest", before, digest(m, things, people));
    }

    private static void smells(ChairSmells x, Model m, String house) {
        int layers = 0;
        for (int t = 0; t < m.things.size(); t++) {
            for (int h = 0; h < 24; h++) {
                List<int[]> at = m.layersBehind(t, h);
                CHECK.due(house + "layers", x.layers(h, t, -1), at.size());
                for (int i = 0; i < 5; i++) {
                    CHECK.due(house + "layers", x.layers(h, t, i), i < at.size() ? at.get(i)[0] : -1);
                    CHECK.due(house + "strong", x.strong(h, t, i), i < at.size() ? at.get(i)[1] : -1);
                }
                CHECK.due(house + "tells", x.tells(h, t), m.tells(h, t));
            }
            for (int p = 0; p < m.people.size(); p++) {
                CHECK.due(house + "last", x.last(t, p), m.last(t, p));
            }
            layers += m.layersBehind(t, 23).size();
        }
        CHECK.due(house + "count 7", x.count(7), layers);
        for (int h = 0; h < 24; h++) {
            CHECK.due(house + "tells all", x.tells(h, -1), m.allTell(h));
            CHECK.due(house + "nowhere", x.nowhere(h), m.nowhere(h));
            CHECK.due(house + "known", x.known(h), m.known(h));
        }
        List<Integer> pairs = m.together();
        CHECK.due(house + "together", x.together(-1), pairs.size());
        for (int i = 0; i < 28; i++) {
            CHECK.due(house + "together", x.together(i), i < pairs.size() ? pairs.get(i) : -1);
        }
    }

    private static int answer(List<Integer> row, int i) {
        if (row == null) {
            return -1;
        }
        return i == -1 ? row.size() : i < row.size() ? row.get(i) : -1;
    }

    private static void plans(ChairSmells x, Model m, String house, Random random) {
        int hour = random.nextInt(24);
        int behind = random.nextInt(3) == 0 ? random.nextInt(24) : Math.min(23, hour + random.nextInt(3));
        for (int p = 0; p < m.people.size(); p++) {
            List<Integer> row = m.hide(p, hour, behind);
            for (int i = -1; i < 2; i++) {
                CHECK.due(house + "hide " + p + " " + hour + " " + behind, x.hide(p, hour, behind, i), answer(row, i));
            }
        }
        for (int t = 0; t < m.things.size(); t++) {
            int told = m.tells(behind, t);
            int one = 1 << random.nextInt(8);
            int[] sets = {0, told, told ^ one, told | one, random.nextInt(256), one | 1 << random.nextInt(8)};
            for (int set : sets) {
                List<Integer> row = m.frame(t, set, hour, behind);
                for (int i = -1; i < 2; i++) {
                    CHECK.due(house + "frame", x.frame(t, set, hour, behind, i), answer(row, i));
                }
            }
        }
        for (int n = 0; n < 8; n++) {
            int bits = n < 6 ? 1 << n : random.nextInt(64);
            List<Integer> row = m.air(bits, hour, behind);
            for (int i = -1; i < 3; i++) {
                CHECK.due(house + "air " + bits, x.air(bits, hour, behind, i), answer(row, i));
            }
        }
    }

    private static void guesses(ChairSmells x, Model m, String house, Random random) {
        for (int k = 0; k < m.sittings.size(); k++) {
            CHECK.due(house + "who", x.who(k), m.who(k));
            int hour = random.nextInt(24);
            CHECK.due(house + "stand", x.stand(k, hour), m.stand(k, hour));
        }
        for (int t = 0; t < m.things.size(); t++) {
            for (int p = 0; p < m.people.size(); p++) {
                CHECK.due(house + "when", x.when(p, t), m.when(p, t));
                int c = random.nextInt(17);
                int hour = random.nextInt(10);
                int hours = random.nextInt(1 << 24);
                for (int what = 0; what < 2; what++) {
                    CHECK.due(house + "draughts", x.draughts(c, t, p, hour, what), m.draughts(c, t, p, hour, what));
                    CHECK.due(house + "found", x.found(hours, t, p, what), m.found(hours, t, p, what));
                }
            }
            int seed = random.nextInt();
            int hour = random.nextInt(24);
            CHECK.due(house + "day", x.day(seed, hour, t), m.day(seed, hour, t));
        }
    }

    private static long digest(Model m, String things, String people) {
        long[] h = {17};
        long bad = Long.MIN_VALUE + 2;
        int layers = 0;
        for (int t = 0; t < m.things.size(); t++) {
            layers += m.layersBehind(t, 23).size();
        }
        add(h, m.things.size(), m.people.size(), things.length(), people.length(), m.sittings.size(),
                m.windows.size(), m.smelt.size(), layers, -1, -1);
        for (int t = 0; t < m.things.size(); t++) {
            int[] thing = m.things.get(t);
            List<int[]> at = m.layersBehind(t, 9);
            boolean some = m.people.size() > 0;
            boolean two = m.people.size() > 1;
            add(h, thing[0], thing[1], thing[2], at.size(), at.isEmpty() ? -1 : at.get(0)[0],
                    at.isEmpty() ? -1 : at.get(0)[1], some ? m.last(t, 0) : -2,
                    some ? m.draughts(5, t, 0, 4, 0) : bad, some ? m.draughts(5, t, 0, 4, 1) : bad,
                    two ? m.found(21, t, 1, 0) : bad, two ? m.found(21, t, 1, 1) : bad, m.day(7, 12, t));
        }
        for (int p = 0; p < m.people.size(); p++) {
            int[] person = m.people.get(p);
            List<Integer> row = m.hide(p, 3, 5);
            add(h, person[0], person[1], person[2], answer(row, -1), answer(row, 0),
                    m.things.isEmpty() ? -2 : m.when(p, 0));
        }
        for (int hour : new int[] {0, 1, 5, 10, 23}) {
            add(h, m.allTell(hour), m.nowhere(hour), m.known(hour));
        }
        for (int k = 0; k < m.sittings.size(); k++) {
            add(h, m.who(k), m.stand(k, 9));
        }
        List<Integer> pairs = m.together();
        add(h, pairs.size(), pairs.isEmpty() ? -1 : pairs.get(0));
        List<Integer> row = m.things.isEmpty() ? null : m.frame(0, 3, 2, 4);
        add(h, m.things.isEmpty() ? -2 : answer(row, -1), m.things.isEmpty() ? -2 : answer(row, 0));
        List<Integer> airs = m.air(1, 4, 6);
        add(h, answer(airs, -1), answer(airs, 0));
        return h[0];
    }

    private static void add(long[] h, long... answers) {
        for (long answer : answers) {
            h[0] = 31 * h[0] + answer;
        }
    }
}
