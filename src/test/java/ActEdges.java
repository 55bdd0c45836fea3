/** The sentences of the promises that change something, or ask: judgments, findings, links, rules, undo, questions, image. */
final class ActEdges {
    private static final String BASE = CallEdges.BASE;
    private static final int[] FAR = CallEdges.FAR;

    private ActEdges() {
    }

    static void all() {
        judge();
        find();
        reverse();
        tie();
        cut();
        rule();
        undo();
        ask();
        image();
        back();
        manyCalls();
    }

    private static void judge() {
        Edge.of(23, "An ACT: a SUIT is JUDGED on a DAY, on the MERITS or not; nothing is FOUND yet: true.", () -> {
            BarredSuits x = Edge.told(BASE + "suit a b 9999 needs 1;suit a b 0 needs 1;");
            Edge.due("on the day it was filed", x.judge(1, 12, true), true);
            Edge.due("on the last day", x.judge(2, 9999, false), true);
            Edge.due("on the first day", x.judge(3, 0, true), true);
            int[][] wanted = {{12, 1, 0}, {9999, 0, 0}, {0, 1, 0}};
            for (int suit = 1; suit <= 3; suit++) {
                for (int what = 6; what <= 8; what++) {
                    Edge.due("suit(" + suit + ", " + what + ")", x.suit(suit, what), wanted[suit - 1][what - 6]);
                }
                Edge.due("nothing is found", x.suit(suit, 9) | x.suit(suit, 10) | x.suit(suit, 11), 0);
            }
            Edge.due("three acts", x.count(8), 3);
            x.find(3, 1, 1, false);
            x.reverse(3);
            Edge.due("undone till it isn't judged", x.undo() + x.undo() + x.undo(), 9);
            Edge.due("judged anew", x.judge(3, 7, true), true);
            Edge.due("nothing is found, it isn't reversed", x.suit(3, 9) | x.suit(3, 11) | x.suit(3, 8), 0);
        });
        Edge.of(23, "False (nothing changes): it is JUDGED.", () -> {
            BarredSuits x = Edge.told(BASE);
            x.rule(0, 9);
            String before = Edge.state(x);
            Edge.due("judged", x.judge(0, 9, false), false);
            Edge.due("on its own day", x.judge(0, 8, true), false);
            Edge.alike("nothing changed", Edge.state(x), before);
            x.reverse(0);
            Edge.due("a reversed one stays judged", x.judge(0, 9, false), false);
            Edge.due("no act", x.count(8), 2);
        });
        Edge.of(23, "NoSuchElementException: no such SUIT.", () -> {
            BarredSuits x = Edge.told(BASE);
            String before = Edge.state(x);
            Edge.noSuch("judge(2, ...)", () -> x.judge(2, 12, true) ? 1 : 0);
            Edge.noSuch("ahead of the day", () -> x.judge(2, -1, true) ? 1 : 0);
            for (int far : FAR) {
                Edge.noSuch("judge(" + far + ", ...)", () -> x.judge(far, 12, true) ? 1 : 0);
            }
            Edge.alike("nothing changed", Edge.state(x), before);
        });
        Edge.of(23, "IllegalArgumentException (behind that): the DAY.", () -> {
            BarredSuits x = Edge.told(BASE);
            String before = Edge.state(x);
            for (int day : new int[] {11, 0, -1, 10000, Integer.MIN_VALUE, Integer.MAX_VALUE}) {
                Edge.illegal("day " + day, () -> x.judge(1, day, true) ? 1 : 0);
            }
            Edge.illegal("of one that is judged", () -> x.judge(0, 4, true) ? 1 : 0);
            Edge.alike("nothing changed", Edge.state(x), before);
        });
    }

    /** Yes, no and untried of suit 0, a digit each. */
    private static int found(BarredSuits x) {
        return x.suit(0, 9) * 100 + x.suit(0, 10) * 10 + x.suit(0, 11);
    }

    private static void find() {
        Edge.of(24, "An ACT: an ISSUE of a SUIT that is JUDGED is FOUND yes (how 1), no (0), or not (NONE), TRIED or not: how it was.", () -> {
            BarredSuits x = Edge.told("person a;person b;suit a b 0 needs 0 30 buts 1;judged 0 0 form;");
            Edge.due("was not", x.find(0, 0, 1, false), -1);
            Edge.due("yes, not tried", found(x), 101);
            Edge.due("was yes", x.find(0, 0, 0, true), 1);
            Edge.due("no, tried", found(x), 10);
            Edge.due("was no", x.find(0, 0, 0, false), 0);
            Edge.due("no, not tried", found(x), 11);
            Edge.due("was no", x.find(0, 0, -1, false), 0);
            Edge.due("not found, so not one that wasn't tried", found(x), 0);
            Edge.due("was not", x.find(0, 0, -1, true), -1);
            Edge.due("a but", x.find(0, 1, 1, true), -1);
            Edge.due("the last issue", x.find(0, 30, 0, false), -1);
            Edge.due("no, not tried", x.suit(0, 10) & x.suit(0, 11), 1 << 30);
            Edge.due("each an act", x.count(8), 7);
            x.reverse(0);
            Edge.due("of a reversed one, too", x.find(0, 30, 1, true), 0);
            Edge.due("the last issue was yes", x.find(0, 30, -1, true), 1);
            Edge.due("the but was yes", x.find(0, 1, 0, true), 1);
        });
        Edge.of(24, "NONE (nothing changes): it isn't JUDGED.", () -> {
            BarredSuits x = Edge.told(BASE);
            x.rule(0, 9);
            String before = Edge.state(x);
            for (int how = -1; how <= 1; how++) {
                Edge.due("how " + how, x.find(1, 1, how, true), -1);
            }
            Edge.alike("nothing changed", Edge.state(x), before);
        });
        Edge.of(24, "NoSuchElementException: no such SUIT, it has not that ISSUE.", () -> {
            BarredSuits x = Edge.told(BASE);
            String before = Edge.state(x);
            Edge.noSuch("suit 2", () -> x.find(2, 1, 1, true));
            for (int issue : new int[] {0, 4, 30, 31, 32, 33, 34, 35, 65}) {
                Edge.noSuch("issue " + issue, () -> x.find(0, issue, 1, true));
                Edge.noSuch("issue " + issue + ", ahead of how", () -> x.find(0, issue, 2, true));
            }
            Edge.noSuch("of one that isn't judged", () -> x.find(1, 2, 1, true));
            for (int far : FAR) {
                Edge.noSuch("suit " + far, () -> x.find(far, 1, 1, true));
                Edge.noSuch("issue " + far, () -> x.find(0, far, 1, true));
            }
            Edge.alike("nothing changed", Edge.state(x), before);
        });
        Edge.of(24, "IllegalArgumentException (behind that): how.", () -> {
            BarredSuits x = Edge.told(BASE);
            String before = Edge.state(x);
            for (int how : new int[] {-2, 2, Integer.MIN_VALUE, Integer.MAX_VALUE}) {
                Edge.illegal("how " + how, () -> x.find(0, 1, how, true));
                Edge.illegal("how " + how + " of one that isn't judged", () -> x.find(1, 1, how, true));
            }
            Edge.alike("nothing changed", Edge.state(x), before);
        });
    }

    private static void reverse() {
        Edge.of(25, "An ACT: a JUDGMENT is REVERSED, isn't any more: whether it is then.", () -> {
            BarredSuits x = Edge.told(BASE);
            Edge.due("reversed", x.reverse(0), true);
            Edge.due("bars, holds, settles nothing", x.barred(1) | x.issues(1, 0) | x.against(1), 0);
            Edge.due("not any more", x.reverse(0), false);
            Edge.due("bars again", x.barred(1), 1);
            Edge.due("two acts", x.count(8), 2);
            Edge.due("undone", x.undo() * 10 + x.suit(0, 8), 11);
            Edge.due("undone", x.undo() * 10 + x.suit(0, 8), 0);
        });
        Edge.of(25, "False (nothing changes): it isn't JUDGED.", () -> {
            BarredSuits x = Edge.told(BASE);
            x.rule(0, 9);
            String before = Edge.state(x);
            Edge.due("not judged", x.reverse(1), false);
            Edge.due("not judged, again", x.reverse(1), false);
            Edge.alike("nothing changed", Edge.state(x), before);
        });
        Edge.of(25, "NoSuchElementException: no such SUIT.", () -> {
            BarredSuits x = Edge.told(BASE);
            Edge.noSuch("reverse(2)", () -> x.reverse(2) ? 1 : 0);
            for (int far : FAR) {
                Edge.noSuch("reverse(" + far + ")", () -> x.reverse(far) ? 1 : 0);
            }
            Edge.due("no act", x.count(8) + x.count(4), 0);
        });
    }

    private static void link(BarredSuits x, int link, int[] want) {
        for (int what = 0; what < 5; what++) {
            Edge.due("link(" + link + ", " + what + ")", x.link(link, what), want[what]);
        }
    }

    private static void tie() {
        Edge.of(26, "An ACT: a LINK more (to NONE: an HEIR's, else a RULER's): its number.", () -> {
            BarredSuits x = Edge.told(BASE);
            Edge.due("an heir's", x.tie(0, 1, 0, -1), 2);
            Edge.due("an heir's, the last day", x.tie(1, 0, 9999, -1), 3);
            Edge.due("a ruler's of one day", x.tie(2, 3, 0, 0), 4);
            Edge.due("a ruler's of all days", x.tie(3, 2, 0, 9999), 5);
            Edge.due("a ruler's of the last day", x.tie(3, 0, 9999, 9999), 6);
            int[][] links = {{0, 1, 0, 0, 9999}, {1, 0, 0, 9999, 9999}, {2, 3, 1, 0, 0}, {3, 2, 1, 0, 9999}, {3, 0, 1, 9999, 9999}};
            for (int i = 0; i < 5; i++) {
                link(x, i + 2, links[i]);
            }
            Edge.due("five acts", x.count(8), 5);
            Edge.due("binds at once", x.isBound(0, 1, 0), true);
            BarredSuits empty = Edge.told("person a;person b;");
            Edge.due("the first one", empty.tie(1, 0, 5, 5), 0);
            Edge.due("the same again is one more", empty.tie(1, 0, 5, 5), 1);
        });
        Edge.of(26, "NONE (nothing changes): there are 24.", () -> {
            BarredSuits x = Edge.told("person a;person b;" + Edge.times("heir a b 1;", 23));
            Edge.due("the 24th", x.tie(0, 1, 5, -1), 23);
            String before = Edge.state(x);
            Edge.due("a 25th heir's", x.tie(0, 1, 5, -1), -1);
            Edge.due("a 25th ruler's", x.tie(1, 0, 5, 6), -1);
            Edge.alike("nothing changed", Edge.state(x), before);
            Edge.due("one goes", x.cut(7), 23);
            Edge.due("one more then", x.tie(1, 0, 5, 6), 23);
        });
        Edge.of(26, "NoSuchElementException: no such PERSONS, both are one.", () -> {
            BarredSuits x = Edge.told(BASE);
            String before = Edge.state(x);
            Edge.noSuch("p 4", () -> x.tie(4, 0, 1, -1));
            Edge.noSuch("q 4", () -> x.tie(0, 4, 1, -1));
            Edge.noSuch("both are 0", () -> x.tie(0, 0, 1, -1));
            Edge.noSuch("both are 3, ahead of the days", () -> x.tie(3, 3, -1, -2));
            for (int far : FAR) {
                Edge.noSuch("p " + far, () -> x.tie(far, 0, 1, -1));
                Edge.noSuch("q " + far, () -> x.tie(0, far, 1, -1));
            }
            Edge.alike("nothing changed", Edge.state(x), before);
            BarredSuits full = Edge.told("person a;person b;" + Edge.times("heir a b 1;", 24));
            Edge.noSuch("of 24, too", () -> full.tie(1, 1, 1, -1));
        });
        Edge.of(26, "IllegalArgumentException (behind that): DAYS.", () -> {
            BarredSuits x = Edge.told(BASE);
            String before = Edge.state(x);
            int[][] days = {{-1, -1}, {10000, -1}, {Integer.MIN_VALUE, -1}, {Integer.MAX_VALUE, -1}, {5, 4}, {0, -2}, {5, 10000},
                {-1, 5}, {10000, 10000}, {-5, -5}, {5, Integer.MIN_VALUE}, {5, Integer.MAX_VALUE}};
            for (int[] day : days) {
                Edge.illegal("days " + day[0] + ", " + day[1], () -> x.tie(0, 1, day[0], day[1]));
            }
            Edge.alike("nothing changed", Edge.state(x), before);
            BarredSuits full = Edge.told("person a;person b;" + Edge.times("heir a b 1;", 24));
            Edge.illegal("of 24, too", () -> full.tie(0, 1, 5, 4));
        });
    }

    private static void cut() {
        Edge.of(27, "An ACT: a LINK goes (those behind it have numbers less by 1): how many are left.", () -> {
            BarredSuits x = Edge.told("person a;person b;heir a b 1;ruler a b 2 3;heir b a 4;");
            int[][] links = {{0, 1, 0, 1, 9999}, {0, 1, 1, 2, 3}, {1, 0, 0, 4, 9999}};
            Edge.due("the one between", x.cut(1), 2);
            link(x, 0, links[0]);
            link(x, 1, links[2]);
            Edge.noSuch("no third one", () -> x.link(2, 0));
            Edge.due("the first one", x.cut(0), 1);
            link(x, 0, links[2]);
            Edge.due("the last one", x.cut(0), 0);
            Edge.due("three acts", x.count(8), 3);
            Edge.due("undone", x.undo() + x.undo() + x.undo(), 3);
            for (int i = 0; i < 3; i++) {
                link(x, i, links[i]);
            }
            BarredSuits full = Edge.told("person a;person b;" + Edge.times("heir a b 1;", 23) + "heir b a 2;");
            Edge.due("the first of 24", full.cut(0), 23);
            Edge.due("the 24th is the 23rd", full.link(22, 0), 1);
            Edge.due("undone", full.undo() * 100 + full.count(1), 24);
            Edge.due("the 24th again", full.link(23, 0), 1);
        });
        Edge.of(27, "NoSuchElementException: no such LINK.", () -> {
            BarredSuits x = Edge.told(BASE);
            String before = Edge.state(x);
            Edge.noSuch("cut(2)", () -> x.cut(2));
            Edge.noSuch("cut(24)", () -> x.cut(24));
            for (int far : FAR) {
                Edge.noSuch("cut(" + far + ")", () -> x.cut(far));
            }
            Edge.alike("nothing changed", Edge.state(x), before);
            Edge.noSuch("of none", () -> Edge.told("person a;person b;").cut(0));
        });
    }

    private static void rule() {
        int[][] bounds = {{1, 100, 50}, {0, 2, 0}, {0, 1, 0}};
        Edge.of(28, "An ACT: SHARE (what 0), MUTUAL (1), EACH (2) becomes v: what it was.", () -> {
            BarredSuits x = Edge.told(BASE);
            for (int what = 0; what < 3; what++) {
                Edge.due("the most, rule " + what, x.rule(what, bounds[what][1]), bounds[what][2]);
                Edge.due("the least, rule " + what, x.rule(what, bounds[what][0]), bounds[what][1]);
                Edge.due("as it is, rule " + what, x.rule(what, bounds[what][0]), bounds[what][0]);
                Edge.due("count", x.count(5 + what), bounds[what][0]);
            }
            Edge.due("each an act, one that changes nothing, too", x.count(8), 9);
            Edge.due("undone", x.undo() * 10 + x.count(7), 80);
            Edge.due("undone", x.undo() * 10 + x.count(7), 71);
        });
        Edge.of(28, "NoSuchElementException: another what.", () -> {
            BarredSuits x = Edge.told(BASE);
            Edge.noSuch("rule(3, 1)", () -> x.rule(3, 1));
            Edge.noSuch("ahead of v", () -> x.rule(3, -1));
            for (int far : FAR) {
                Edge.noSuch("rule(" + far + ", 1)", () -> x.rule(far, 1));
            }
            Edge.due("no act", x.count(8), 0);
        });
        Edge.of(28, "IllegalArgumentException (behind that): v.", () -> {
            BarredSuits x = Edge.told(BASE);
            String before = Edge.state(x);
            for (int what = 0; what < 3; what++) {
                int rule = what;
                int[] wrong = {bounds[what][0] - 1, bounds[what][1] + 1, Integer.MIN_VALUE, Integer.MAX_VALUE};
                for (int v : wrong) {
                    Edge.illegal("rule(" + rule + ", " + v + ")", () -> x.rule(rule, v));
                }
            }
            Edge.alike("nothing changed", Edge.state(x), before);
        });
    }

    private static void undo() {
        Edge.of(29, "The latest ACT is UNDONE: how many still can be;", () -> {
            BarredSuits x = Edge.told("person a;person b;suit a b 1 needs 1;");
            String[] states = new String[6];
            states[0] = Edge.state(x);
            x.judge(0, 2, true);
            states[1] = Edge.state(x);
            x.find(0, 1, 0, false);
            states[2] = Edge.state(x);
            x.tie(0, 1, 2, -1);
            states[3] = Edge.state(x);
            x.cut(0);
            states[4] = Edge.state(x);
            x.reverse(0);
            for (int left = 4; left >= 0; left--) {
                Edge.due("left", x.undo(), left);
                Edge.alike("as it was with " + left, Edge.state(x), states[left]);
            }
        });
        Edge.of(29, "The latest ACT is UNDONE", () -> {
            BarredSuits x = Edge.told("person a;person b;suit a b 1 needs 0 1 2 buts 30;judged 0 1 form yes 0 1 no 2 30 untried 1 2;");
            String[] states = new String[4];
            int[][] findings = {{0, 0, 0}, {2, 1, 1}, {30, -1, 0}, {1, 0, 1}};
            for (int i = 0; i < 4; i++) {
                states[i] = Edge.state(x);
                x.find(0, findings[i][0], findings[i][1], findings[i][2] == 1);
            }
            for (int left = 3; left >= 0; left--) {
                Edge.due("a finding", x.undo(), left);
                Edge.alike("as it was with " + left, Edge.state(x), states[left]);
            }
        });
        Edge.of(29, "NONE: none can.", () -> {
            BarredSuits x = Edge.told(BASE);
            String before = Edge.state(x);
            Edge.due("told anew", x.undo(), -1);
            x.rule(0, 9);
            Edge.due("one", x.undo(), 0);
            Edge.due("none any more", x.undo(), -1);
            Edge.alike("nothing changed", Edge.state(x), before);
            for (int i = 0; i < 30; i++) {
                x.rule(0, 1 + i);
            }
            for (int left = 11; left >= 0; left--) {
                Edge.due("twelve of thirty", x.undo(), left);
            }
            Edge.due("not a thirteenth", x.undo(), -1);
            Edge.due("as it was behind 18", x.count(5), 18);
        });
    }

    private static void ask() {
        Edge.of(30, "The tape's first n bytes (it is empty then, whatever comes of it) are a QUESTION: its answer; -1000000000 less the FAULT.", () -> {
            BarredSuits x = Edge.told(BASE);
            x.rule(0, 9);
            x.say(1);
            String before = Edge.state(x);
            Check.feedText(x, "many 1=1;garbage");
            Edge.due("the first eight", x.ask(8), 2);
            Edge.due("empty then", x.count(9), 0);
            String[] texts = {"?", "many 10000=1", "many {{{{{{{"};
            int[] places = {0, 5, 11};
            for (int i = 0; i < 3; i++) {
                Edge.due("fault " + (i + 1), Check.ask(x, texts[i]), -1000000001 - i);
                Edge.due("its place", x.fault(), places[i]);
                Edge.due("empty then, too", x.count(9), 0);
            }
            Edge.due("n is 0", x.ask(0), -1000000001);
            Edge.due("its end", x.fault(), 0);
            Edge.due("many", Check.ask(x, "many 1=2"), 0);
            Edge.due("none is the first", Check.ask(x, "first 1=2"), -1);
            Edge.alike("nothing else changed", Edge.state(x), before);
        });
        Edge.of(30, "IllegalArgumentException: the tape has not so many, n below 0, above 200 (nothing changes).", () -> {
            BarredSuits x = Edge.told(BASE);
            x.rule(0, 9);
            Check.ask(x, " ?");
            Check.feedText(x, "many 1=1" + Edge.times(" ", 192));
            String before = Edge.state(x);
            for (int n : new int[] {201, -1, 220, 600, Integer.MIN_VALUE, Integer.MAX_VALUE}) {
                Edge.illegal("ask(" + n + ")", () -> x.ask(n));
            }
            Edge.alike("nothing changed", Edge.state(x), before);
            Check.feedText(x, " ");
            for (int n : new int[] {201, 220}) {
                Edge.illegal("though the tape has so many, ask(" + n + ")", () -> x.ask(n));
            }
            Edge.due("still on the tape", x.count(9), 220);
            Edge.due("200 are not above", x.ask(200), 2);
            Check.feedText(x, "many 1=1");
            Edge.illegal("one more than there are", () -> x.ask(21));
            Edge.due("all that there are", x.ask(20), 2);
            Edge.illegal("of an empty tape", () -> x.ask(1));
        });
    }

    private static void image() {
        Edge.of(31, "All (but ACTS, the tape) is kept (instead of what was).", () -> {
            BarredSuits x = Edge.told(BASE + "suit a b 9;judged 2 9 merits;reversed 2;");
            x.rule(2, 1);
            Check.feedText(x, "person z;");
            String before = Edge.state(x);
            x.image();
            Edge.alike("nothing changes by it", Edge.state(x), before);
            Edge.due("acts can be undone", x.undo() * 10 + x.count(7), 0);
            Edge.due("back", x.back(), true);
            Edge.due("EACH as it was kept", x.count(7), 1);
            x.desk(0);
            x.image();
            Edge.due("back", x.back(), true);
            Edge.due("nobody was kept, instead", x.count(0) + x.count(1) + x.count(2), 0);
            BarredSuits empty = new BarredSuits();
            empty.image();
            Check.desk(empty, BASE);
            Edge.due("an image of nothing", empty.back(), true);
            Edge.due("nothing", empty.count(0) + empty.count(1) + empty.count(2), 0);
        });
    }

    private static void back() {
        Edge.of(32, "All is as it was kept (no ACTS are kept then): true;", () -> {
            BarredSuits x = Edge.told(BASE);
            x.image();
            String kept = Edge.state(x);
            x.judge(1, 13, true);
            x.find(0, 1, 0, false);
            x.reverse(0);
            x.cut(0);
            x.tie(3, 2, 1, -1);
            x.rule(1, 2);
            Edge.due("back", x.back(), true);
            Edge.alike("as it was kept", Edge.state(x), kept);
            Edge.due("no acts", x.undo(), -1);
            x.rule(0, 9);
            Check.feedText(x, "person z;");
            Edge.due("back again, from another text", x.desk(9), 0);
            Edge.due("back", x.back(), true);
            Edge.alike("as it was kept", Edge.state(x), kept);
            Check.feedText(x, "person z;");
            x.back();
            Edge.due("the tape is as it is", x.count(9), 20);
        });
        Edge.of(32, "false: nothing was kept.", () -> {
            Edge.due("a new one", new BarredSuits().back(), false);
            BarredSuits x = Edge.told(BASE);
            x.rule(0, 9);
            String before = Edge.state(x);
            Edge.due("back", x.back(), false);
            Edge.alike("nothing changed", Edge.state(x), before);
            Edge.due("the act is kept", x.undo(), 0);
        });
    }

    private static void manyCalls() {
        // "An object is used for at most 512 calls after it has been made": this stands ahead of all terms and promises.
        Edge.of(0, "An object is used for at most 512 calls after it has been made; what later calls answer is free.", () -> {
            BarredSuits x = new BarredSuits();
            for (int i = 0; i < 128; i++) {
                Edge.due("feed()", x.feed(0x73686172, 0x65203130, 0x303b2020, 0x20202020, 0x20202020), 20);
                Edge.due("desk()", x.desk(12), 0);
                Edge.due("rule()", x.rule(0, 1 + i % 100), 100);
                Edge.due("undo(), call " + (4 * i + 4), x.undo(), 0);
            }
        });
    }
}
