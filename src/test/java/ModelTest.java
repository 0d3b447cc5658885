import java.util.ArrayList;
import java.util.List;
import java.util.Random;

/** Random texts and calls, the class's answers held against the model's. */
public final class ModelTest {
    private static final Checks checks = new Checks();
    private static final Random random = new Random(20261118L);

    private ModelTest() {
    }

    public static void main(String[] args) {
        for (int round = 0; round < 120 && checks.wrong() < 40; round++) {
            checks.part("round " + round);
            faults();
            seas();
            pairs();
            disputes();
        }
        checks.finish();
    }

    private static int below(int n) {
        return random.nextInt(n);
    }

    private static int from(int least, int most) {
        return least + below(most - least + 1);
    }

    private static int odd(int below) {
        return below(12) == 0 ? new int[] {-2, -1, below, 99, Integer.MAX_VALUE, Integer.MIN_VALUE}[below(6)] : below(below);
    }

    // ---- texts

    private static String seaText() {
        StringBuilder t = new StringBuilder();
        int w = from(2, 8);
        int h = from(2, 8);
        if (below(5) > 0) {
            t.append("size ").append(w).append(' ').append(h).append(";");
        } else {
            w = 6;
            h = 6;
        }
        if (below(4) > 0) {
            t.append("wind ").append(below(4)).append(' ').append(below(4)).append(";\n");
        }
        if (below(2) == 0) {
            t.append("nets ").append(from(1, 9)).append(" ; ");
        }
        for (int c = 0; c < 3; c++) {
            if (below(4) > 0) {
                t.append("coast ").append(c).append(' ').append(from(1, 5)).append(' ').append(below(3)).append(' ')
                    .append(from(0, 8)).append(' ').append(from(1, 8)).append(';');
            }
        }
        int shoals = below(5);
        for (int s = 0; s < shoals; s++) {
            t.append("shoal ").append(below(w * h)).append(' ').append(from(1, 30)).append(' ').append(below(5)).append(';');
        }
        int boats = below(7);
        for (int b = 0; b < boats; b++) {
            t.append("boat ").append(below(w * h)).append(' ').append(below(12)).append(' ').append(below(3)).append(';');
        }
        if (boats > 0 && below(2) == 0) {
            t.append("deaf ").append(below(boats)).append(';');
        }
        return t.toString();
    }

    private static String dayText() {
        StringBuilder t = new StringBuilder();
        int deeds = from(0, 30);
        for (int k = 0; k < deeds; k++) {
            t.append(deedText());
        }
        return t.toString();
    }

    private static String deedText() {
        int boat = below(15) == 0 ? below(6) : below(3);
        int shoal = below(10) == 0 ? below(6) : below(4);
        switch (below(8)) {
            case 0: return "row " + boat + " " + below(4) + ";";
            case 1:
            case 2: return "claim " + boat + " " + shoal + " " + from(2, 8) + ";";
            case 3:
            case 4: return "all " + boat + " " + from(2, 8) + ";";
            case 5: return below(2) == 0 ? "wait;" : "split " + boat + " " + shoal + ";";
            case 6: return below(2) == 0 ? "wait;" : "net " + boat + " " + shoal + ";";
            default: return "wait;";
        }
    }

    /** Goes from deed to deed, keeping mostly those that can be, so that days get long. */
    private static String longDayText(Model told) {
        Model m = told.copy();
        String day = "";
        int deeds = 0;
        for (int trial = 0; trial < 120 && deeds < 30; trial++) {
            String longer = day + possibleDeed(m);
            m.tape.setLength(0);
            m.tape.append(longer);
            if (longer.length() <= 590 && m.text(1, 0) == 0 && m.stop(0, 0) > deeds) {
                day = longer;
                deeds++;
            }
        }
        return below(3) == 0 && day.length() < 580 ? day + deedText() : day;
    }

    private static String possibleDeed(Model m) {
        Model.MRun r = m.run(0, 0, 99);
        if (r != null && below(3) == 0) {
            for (int b = 0; b < r.cells.length; b++) {
                for (int s = 0; s < r.shoals.size(); s++) {
                    Model.MShoal shoal = r.there(s);
                    if (shoal != null && shoal.cell == r.cells[b] && below(2) == 0) {
                        return "net " + b + " " + s + ";";
                    }
                    if (shoal != null && shoal.holderAt(r.hour) == b && below(2) == 0) {
                        return "split " + b + " " + s + ";";
                    }
                }
            }
        }
        return deedText();
    }

    private static String disputeText(int most) {
        StringBuilder t = new StringBuilder();
        int sayings = from(1, most);
        for (int s = 0; s < sayings; s++) {
            int first = below(4);
            t.append("said ").append(first).append(' ').append(first + below(4)).append(';');
        }
        int aheads = sayings < 2 ? 0 : below(3) == 0 ? below(11) : below(4);
        for (int k = 0; k < aheads; k++) {
            int a = below(sayings);
            int b = (a + from(1, sayings - 1)) % sayings;
            boolean turn = a > b && below(4) > 0;
            t.append("ahead ").append(turn ? b : a).append(' ').append(turn ? a : b).append(';');
        }
        return t.toString();
    }

    private static String spoilt(String text) {
        StringBuilder t = new StringBuilder(text);
        int changes = below(4);
        for (int i = 0; i < changes && t.length() > 0; i++) {
            int at = below(t.length());
            String signs = ";; \n0123456789 99az\u00e9A,-";
            switch (below(4)) {
                case 0: t.setCharAt(at, signs.charAt(below(signs.length()))); break;
                case 1: t.insert(at, signs.charAt(below(signs.length()))); break;
                case 2: t.deleteCharAt(at); break;
                default:
                    int from = text.isEmpty() ? 0 : below(text.length());
                    t.insert(at, text, from, Math.min(text.length(), from + below(40)));
                    break;
            }
        }
        if (t.length() > 600) {
            t.setLength(600);
        }
        return t.toString();
    }

    private static void tell(ShoalClaims x, Model m, int sort, int at, String text) {
        x.end(0);
        Checks.put(x, text);
        m.tape.setLength(0);
        m.tape.append(text);
        checks.due("text(" + sort + ", " + at + ") of [" + text + "]", x.text(sort, at), m.text(sort, at));
        checks.due("end(1) behind text(" + sort + ", " + at + ")", x.end(1), m.end(1));
        checks.due("fault(0) of [" + text + "]", x.fault(0), m.fault);
        checks.due("fault(1) of [" + text + "]", x.fault(1), m.place);
    }

    // ---- rounds

    private static void faults() {
        ShoalClaims x = new ShoalClaims();
        Model m = new Model();
        for (int i = 0; i < 30; i++) {
            int sort = below(3);
            String text = sort == 0 ? seaText() : sort == 1 ? dayText() : disputeText(9);
            text = spoilt(text);
            if (below(8) == 0) {
                text = text + " " + text;
            }
            text = text.length() > 600 ? text.substring(0, 600) : text;
            tell(x, m, below(25) == 0 ? odd(3) : sort, below(4) == 0 ? odd(2) : -1, text);
            if (below(6) == 0) {
                int k = odd(3);
                checks.due("image(" + k + ")", x.image(k), m.image(k));
            }
            if (below(6) == 0) {
                int k = odd(3);
                checks.due("again(" + k + ")", x.again(k), m.again(k));
                checks.due("fault(0)", x.fault(0), m.fault);
                checks.due("fault(1)", x.fault(1), m.place);
            }
            tapeMoves(x, m);
            told(x, m);
        }
    }

    private static void tapeMoves(ShoalClaims x, Model m) {
        int moves = below(4);
        for (int i = 0; i < moves; i++) {
            if (below(3) == 0) {
                int n = below(3) == 0 ? odd(700) : below(m.tape.length() + 1);
                checks.due("end(" + n + ")", x.end(n), m.end(n));
            } else {
                int n = random.nextInt();
                checks.due("feed", x.feed(n, 1, 2, 3, ~n), m.feed(n, 1, 2, 3, ~n));
            }
        }
    }

    private static void told(ShoalClaims x, Model m) {
        int[] sizes = {m.seas.size(), m.days.size(), m.disputes.size()};
        for (int sort = -1; sort < 4; sort++) {
            checks.due("count", x.count(sort), sort < 0 || sort > 2 ? -2 : sizes[sort]);
        }
        for (int i = 0; i < 6; i++) {
            int n = odd(2);
            int a = odd(6);
            int what = odd(24);
            checks.due("sea(" + n + ", " + what + ")", x.sea(n, what), m.seaWhat(n, what));
            what = odd(4);
            checks.due("shoal", x.shoal(n, a, what), m.shoalWhat(n, a, what));
            checks.due("boat", x.boat(n, a, what), m.boatWhat(n, a, what));
            a = odd(31) - below(2);
            checks.due("deed(" + n + ", " + a + ", " + what + ")", x.deed(n, a, what), m.deed(n, a, what));
            disputeNumbers(x, m, n);
        }
    }

    private static void disputeNumbers(ShoalClaims x, Model m, int n) {
        Model.MDispute d = m.dispute(n);
        int what = 20 + odd(60);
        int want = -2;
        if (d != null) {
            int base = what < 30 ? 20 : what < 40 ? 30 : what < 60 ? 40 : 60;
            List<int[]> rows = base < 40 ? d.said : d.ahead;
            want = what >= 20 && what - base < rows.size() ? rows.get(what - base)[base == 20 || base == 40 ? 0 : 1] : -2;
            if (what < 20) {
                return;
            }
        }
        checks.due("dispute(" + n + ", " + what + ")", x.dispute(n, what), want);
    }

    private static void seas() {
        ShoalClaims x = new ShoalClaims();
        Model m = new Model();
        tell(x, m, 0, -1, seaText());
        tell(x, m, 0, -1, seaText());
        tell(x, m, 1, -1, dayText());
        tell(x, m, 1, 0, longDayText(m));
        tell(x, m, 1, -1, dayText());
        for (int i = 0; i < 120; i++) {
            wordsAndChoices(x, m, below(15) == 0 ? odd(2) : below(2));
            days(x, m, below(15) == 0 ? odd(2) : below(3) == 0 ? 1 : 0, below(15) == 0 ? odd(2) : below(3) == 0 ? 1 : 0);
        }
        int a = below(6);
        int b = below(6);
        int[] want = m.pair(0, a, b);
        for (int what = 0; what < 3; what++) {
            checks.due("pair(0, " + a + ", " + b + ", " + what + ")", x.pair(0, a, b, what), want[what]);
        }
        checks.due("pair what 3", x.pair(0, a, b, 3), -1);
        checks.due("pair what -1", x.pair(0, a, b, -1), -1);
    }

    /** Small seas and low voices, so that it matters where the other boat is. */
    private static void pairs() {
        ShoalClaims x = new ShoalClaims();
        Model m = new Model();
        int w = from(2, 4);
        int h = from(2, 4);
        StringBuilder t = new StringBuilder("size " + w + " " + h + ";wind " + below(4) + " " + below(3) + ";");
        for (int c = 0; c < 3; c++) {
            t.append("coast " + c + " 1 " + below(4) + " " + below(3) + " 5;");
        }
        for (int i = 0; i < 4; i++) {
            t.append("shoal " + below(w * h) + " " + from(1, 9) + " 4;");
            t.append("boat " + below(w * h) + " " + below(4) + " " + below(3) + ";");
        }
        tell(x, m, 0, -1, below(3) == 0 ? t + "deaf " + below(4) + ";" : t.toString());
        for (int a = 0; a < 4; a++) {
            for (int b = 0; b < 4; b++) {
                int[] want = m.pair(0, a, b);
                for (int what = 0; what < 3; what++) {
                    checks.due("pair(0, " + a + ", " + b + ", " + what + ") of " + t, x.pair(0, a, b, what), want[what]);
                }
            }
        }
    }

    private static void wordsAndChoices(ShoalClaims x, Model m, int n) {
        int a = odd(64);
        int b = odd(64);
        checks.due("far(" + n + ", " + a + ", " + b + ")", x.far(n, a, b), m.farWhat(n, a, b));
        a = odd(6);
        b = below(3) == 0 ? -1 : odd(7);
        checks.due("hears(" + n + ", " + a + ", " + b + ")", x.hears(n, a, b), m.hearsWhat(n, a, b));
        checks.due("loud(" + n + ")", x.loud(n), m.loud(n));
        checks.due("tells(" + n + ", " + a + ")", x.tells(n, a), m.tells(n, a));
        int what = odd(4);
        checks.due("winds(" + n + ", " + what + ")", x.winds(n, what), m.winds(n, what));
        b = odd(4);
        int c = odd(4);
        checks.due("meet(" + n + ", " + b + ", " + c + ")", x.meet(n, b, c), m.meet(n, b, c));
        checks.due("least(" + n + ", " + a + ", " + b + ")", x.least(n, a, b), m.least(n, a, b));
        what = below(3) == 0 ? 0 : odd(20);
        checks.due("soon(" + n + ", " + a + ", " + b + ", " + what + ")", x.soon(n, a, b, what), m.soon(n, a, b, what));
        checks.due("berth(" + n + ", " + a + ", false)", x.berth(n, a, false), m.berth(n, a, false));
        checks.due("berth(" + n + ", " + a + ", true)", x.berth(n, a, true), m.berth(n, a, true));
    }

    private static void days(ShoalClaims x, Model m, int n, int d) {
        int stop = m.stop(n, d);
        String of = "(" + n + ", " + d + ", ";
        checks.due("stop" + of, x.stop(n, d), stop);
        checks.due("twice" + of, x.twice(n, d), m.twice(n, d));
        int upTo = below(6) == 0 ? odd(32) : below(Math.max(0, stop) + 1);
        int a = odd(6);
        int what = odd(7);
        checks.due("state" + of + upTo + ", " + a + ", " + what + ")", x.state(n, d, upTo, a, what), m.state(n, d, upTo, a, what));
        checks.due("has" + of + upTo + ", " + a + ", " + what + ")", x.has(n, d, upTo, a, what), m.has(n, d, upTo, a, what));
        int b = odd(6);
        checks.due("lack" + of + upTo + ", " + a + ", " + b + ")", x.lack(n, d, upTo, a, b), m.lack(n, d, upTo, a, b));
        checks.due("claimed" + of + upTo + ", false)", x.claimed(n, d, upTo, false), m.claimed(n, d, upTo, false));
        checks.due("claimed" + of + upTo + ", true)", x.claimed(n, d, upTo, true), m.claimed(n, d, upTo, true));
        what = odd(4);
        checks.due("shares" + of + upTo + ", " + what + ")", x.shares(n, d, upTo, what), m.shares(n, d, upTo, what));
        checks.due("sum" + of + what + ")", x.sum(n, d, what), m.sum(n, d, what));
        int seed = below(2) == 0 ? below(100) : random.nextInt();
        int k = odd(11);
        what = below(2) == 0 ? below(2) : odd(18);
        checks.due("gulls" + of + seed + ", " + k + ", " + what + ")", x.gulls(n, d, seed, k, what), m.gulls(n, d, seed, k, what));
    }

    private static void disputes() {
        ShoalClaims x = new ShoalClaims();
        Model m = new Model();
        tell(x, m, 2, -1, disputeText(5));
        tell(x, m, 2, -1, disputeText(6));
        for (int n = 0; n < 2; n++) {
            oneDispute(x, m.dispute(n), n);
        }
        checks.due("dispute(2, 0)", x.dispute(2, 0), -2);
        checks.due("dispute(-1, 0)", x.dispute(-1, 0), -2);
        checks.due("hours(2, 0)", x.hours(2, 0, true), -1);
    }

    private static void oneDispute(ShoalClaims x, Model.MDispute d, int n) {
        int sayings = d.said.size();
        List<int[]> orders = Model.orders(sayings, d.ahead);
        String of = "dispute(" + n + ", ";
        checks.due(of + "0)", x.dispute(n, 0), sayings);
        checks.due(of + "1)", x.dispute(n, 1), d.ahead.size());
        checks.due(of + "2)", x.dispute(n, 2), orders.size());
        checks.due(of + "3)", x.dispute(n, 3), orders.isEmpty() ? -1 : sure(orders, sayings));
        checks.due(of + "6)", x.dispute(n, 6), Model.fewest(d));
        for (int i = 0; i < 10; i++) {
            int want = i >= sayings ? -2 : orders.isEmpty() ? -1 : orders.get(0)[i];
            checks.due(of + (10 + i) + ")", x.dispute(n, 10 + i), want);
        }
        List<int[]> hours = new ArrayList<>();
        Model.hoursOf(d, new int[sayings], 0, hours);
        checks.due(of + "4)", x.dispute(n, 4), hours.isEmpty() ? 0 : 1);
        int first = hours.isEmpty() ? -1 : 0;
        for (int s = 0; s < sayings; s++) {
            int least = hours.isEmpty() ? -1 : 1000;
            int most = -1;
            for (int[] h : hours) {
                least = Math.min(least, h[s]);
                most = Math.max(most, h[s]);
                int hour = h[s];
                first |= java.util.Arrays.stream(h).allMatch(other -> hour <= other) ? 1 << s : 0;
            }
            checks.due("hours(" + n + ", " + s + ", false)", x.hours(n, s, false), least);
            checks.due("hours(" + n + ", " + s + ", true)", x.hours(n, s, true), most);
        }
        checks.due(of + "5)", x.dispute(n, 5), first);
        checks.due("hours of none", x.hours(n, sayings, false), -1);
        checks.due("hours of -1", x.hours(n, -1, false), -1);
        for (int what : new int[] {-1, 7, 8, 9, 19, 29, 39, 56, 59, 76, Integer.MAX_VALUE, Integer.MIN_VALUE}) {
            checks.due(of + what + ")", x.dispute(n, what), -2);
        }
    }

    private static int sure(List<int[]> orders, int n) {
        int couples = 0;
        for (int a = 0; a < n; a++) {
            for (int b = 0; b < n; b++) {
                boolean always = a != b;
                for (int[] order : orders) {
                    always = always && indexOf(order, a) < indexOf(order, b);
                }
                couples += always ? 1 : 0;
            }
        }
        return couples;
    }

    private static int indexOf(int[] order, int saying) {
        for (int i = 0; i < order.length; i++) {
            if (order[i] == saying) {
                return i;
            }
        }
        return -1;
    }
}
