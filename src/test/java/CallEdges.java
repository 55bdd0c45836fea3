/** The sentences of the promises that look at something: a new object, the tape, counts, bonds, bars, what is said. */
final class CallEdges {
    static final String P4 = "person a;person b;person c;person d;";
    static final String BASE = P4 + "heir a c 10;ruler b d 0 20;suit a b 5 facts 1 2 3 needs 1 2 buts 3;"
            + "judged 0 8 merits yes 1 2 no 3;suit c d 12 facts 2 3 needs 1 4 buts 3;";
    static final int[] FAR = {-1, -2, Integer.MIN_VALUE, Integer.MAX_VALUE, 1 << 16, 256};

    private CallEdges() {
    }

    static void all() {
        newObject();
        feed();
        desk();
        fault();
        count();
        letterAndLink();
        suit();
        isBound();
        chain();
        two();
        barred();
        held();
        issuesAndForced();
        say();
        latest();
        goes();
        would();
        freeTill();
        against();
    }

    private static void newObject() {
        Edge.of(1, "Nobody, nothing.", () -> {
            BarredSuits x = new BarredSuits();
            int[] counts = {0, 0, 0, 0, 0, 50, 0, 0, 0, 0, 0};
            for (int what = 0; what <= 10; what++) {
                Edge.due("count(" + what + ")", x.count(what), counts[what]);
            }
            Edge.due("fault()", x.fault(), -1);
            Edge.due("said(0)", x.said(0), -1);
            Edge.due("undo()", x.undo(), -1);
            Edge.due("back()", x.back(), false);
            Edge.due("against(0), against(30)", x.against(0) | x.against(30), 0);
            Edge.noSuch("letter(0, 0)", () -> x.letter(0, 0));
            Edge.noSuch("link(0, 0)", () -> x.link(0, 0));
            Edge.noSuch("suit(0, 0)", () -> x.suit(0, 0));
            Edge.noSuch("two(0, 0, 0)", () -> x.two(0, 0, 0));
            Edge.noSuch("latest(0)", () -> x.latest(0));
            Edge.noSuch("would(1, ...)", () -> x.would(1, 0, 0, 0, 0, 0));
            Edge.noSuch("cut(0)", () -> x.cut(0));
            Edge.illegal("desk(1)", () -> x.desk(1));
            Edge.illegal("ask(1)", () -> x.ask(1));
        });
        Edge.term(1, "The constants: `NONE = -1`: There is none.", () -> Edge.due("NONE", BarredSuits.NONE, -1));
    }

    private static void feed() {
        Edge.of(2, "Twenty bytes come behind the tape, of each number the highest first: how many it has;", () -> {
            BarredSuits x = new BarredSuits();
            Edge.due("the first twenty", x.feed(0x70657273, 0x6f6e2061, 0x623b7065, 0x72736f6e, 0x2063643b), 20);
            Edge.due("twenty more behind them", x.feed(0x70657273, 0x6f6e2065, 0x663b2020, 0x20202020, 0x202020ff), 40);
            Edge.due("the first 39 are a text", x.desk(39), 0);
            Edge.due("three persons", x.count(0), 3);
            Edge.due("letters", x.letter(0, 0) * 100 + x.letter(1, 1) * 10 + x.letter(2, 1), 146);
            Edge.due("negative numbers", x.feed(-1, Integer.MIN_VALUE, 0, Integer.MAX_VALUE, 0xff000000), 20);
        });
        Edge.of(2, "NONE, and none come, if it would have more than 600.", () -> {
            BarredSuits x = new BarredSuits();
            for (int i = 1; i <= 29; i++) {
                x.feed(0x20202020, 0x20202020, 0x20202020, 0x20202020, 0x20202020);
            }
            Edge.due("600 is not more", x.feed(0x20202020, 0x20202020, 0x20202020, 0x20202020, 0x2020203b), 600);
            Edge.due("620 would be", x.feed(0, 0, 0, 0, 0), -1);
            Edge.due("none came", x.count(9), 600);
            Edge.due("the last one is as it was", x.desk(600) * 1000 + x.fault(), -11000 + 599);
            Edge.due("there is room again", x.feed(0, 0, 0, 0, 0), 20);
        });
    }

    private static void desk() {
        Edge.of(3, "The tape's first n bytes (it is empty then, whatever comes of it) tell all anew (no ACTS are kept then): how many SUITS.", () -> {
            BarredSuits x = Edge.told(BASE);
            x.rule(0, 9);
            x.say(1);
            Check.feedText(x, "person z;suit");
            Edge.due("the first nine", x.desk(9), 0);
            Edge.due("the rest is gone", x.count(9), 0);
            Edge.due("all anew", x.count(0) * 100 + x.count(1) * 10 + x.count(2), 100);
            Edge.due("no acts", x.count(8), 0);
            Edge.due("nothing to undo", x.undo(), -1);
            Check.feedText(x, "person z;");
            Edge.due("n is 0", x.desk(0), 0);
            Edge.due("empty then, too", x.count(9) + x.count(0), 0);
            Edge.due("ten suits", Check.desk(x, "person a;person b;" + Edge.times("suit a b 1;", 10)), 10);
        });
        Edge.of(3, "tell all anew", () -> {
            String few = "person a;person b;suit a b 5 facts 1 needs 1;";
            String many = P4 + "heir a b 9;heir a c 9;share 9;mutual 2;each 1;suit a b 0 facts 1 needs 1 2;judged 0 0 merits yes 1 no 2 untried 1;reversed 0;";
            String[] seconds = {"suit a b 9 facts 1 needs 1;", "suit a b 0 facts 1 needs 1;judged 1 0 merits yes 1;"};
            for (String second : seconds) {
                BarredSuits x = Edge.told(many + second);
                Check.desk(x, few);
                x.image();
                nothingIsLeft(x);
                Check.desk(x, many + second);
                x.back();
                nothingIsLeft(x);
            }
        });
        Edge.of(3, "-10 less the FAULT (nothing else changes).", () -> {
            BarredSuits x = Edge.told(BASE);
            x.rule(0, 9);
            x.say(1);
            Check.desk(x, "?");
            String before = Edge.state(x);
            String[] texts = {"?", " share 0;", "heir a b 1;", Edge.persons(12) + "person z;"};
            int[] places = {0, 7, 5, 108};
            for (int i = 0; i < 4; i++) {
                Edge.due("fault " + (i + 1), Check.desk(x, texts[i]), -11 - i);
                Edge.due("its place", x.fault(), places[i]);
                Edge.due("the tape is empty", x.count(9), 0);
            }
            Check.desk(x, "?");
            Edge.alike("all as it was", Edge.state(x), before);
            Edge.due("the act, too", x.undo() * 100 + x.count(5), 50);
        });
        Edge.of(3, "IllegalArgumentException: the tape has not so many, n below 0 (nothing changes).", () -> {
            BarredSuits x = Edge.told(BASE);
            x.rule(0, 9);
            x.say(1);
            Check.feedText(x, "person z;");
            String before = Edge.state(x);
            for (int n : new int[] {21, 600, 601, -1, Integer.MIN_VALUE, Integer.MAX_VALUE}) {
                Edge.illegal("desk(" + n + ")", () -> x.desk(n));
            }
            Edge.alike("nothing changed", Edge.state(x), before);
            Edge.due("all twenty can be told", x.desk(20), 0);
        });
    }

    /** Of more persons, links and judged suits that were told ahead of the one suit that isn't judged. */
    private static void nothingIsLeft(BarredSuits x) {
        int[] suit = {0, 1, 5, 2, 2, 0, -1, 0, 0, 0, 0, 0, -1, 0, 0};
        for (int what = 0; what < 15; what++) {
            Edge.due("suit(0, " + what + ")", x.suit(0, what), suit[what]);
        }
        int[] counts = {2, 0, 1, 0, 0, 50, 0, 0, 0, 0, 0};
        for (int what = 0; what <= 10; what++) {
            Edge.due("count(" + what + ")", x.count(what), counts[what]);
        }
        Edge.due("no judgment", x.latest(0) + x.latest(1), -2);
        Edge.due("nothing settled", x.against(1), 0);
        Edge.due("no bar", x.barred(0) + x.freeTill(0), 9999);
        Edge.due("nothing held", x.issues(0, 0), 0);
        Edge.due("would be free", x.would(1, 9, 2, 2, 0, 0) | x.would(1, 9, 2, 2, 0, 1), 0);
        Edge.due("judged", x.judge(0, 5, true), true);
        Edge.due("nobody else is bound", x.isBound(0, 0, 1), false);
        for (int what = 0; what <= 4; what++) {
            Edge.due("goes(0, " + what + ")", x.goes(0, what), 0);
        }
    }

    private static void fault() {
        Edge.of(4, "The place of the latest FAULT of desk(), ask() (the latest of these that was no IllegalArgumentException);", () -> {
            BarredSuits x = new BarredSuits();
            Check.desk(x, "  ?");
            Edge.due("of desk()", x.fault(), 2);
            Check.ask(x, "many ");
            Edge.due("of ask()", x.fault(), 5);
            Edge.illegal("desk(1)", () -> x.desk(1));
            Edge.illegal("ask(-1)", () -> x.ask(-1));
            Edge.due("as it was", x.fault(), 5);
            Edge.noSuch("count(-1)", () -> x.count(-1));
            x.image();
            x.back();
            Edge.due("whatever else comes", x.fault(), 5);
        });
        Edge.of(4, "NONE: it had none, or there was none.", () -> {
            BarredSuits x = new BarredSuits();
            Edge.due("there was none", x.fault(), -1);
            Check.desk(x, "?");
            Edge.due("place 0 is a place", x.fault(), 0);
            x.desk(0);
            Edge.due("desk() had none", x.fault(), -1);
            Check.desk(x, "?");
            Check.ask(x, "many 1=1");
            Edge.due("ask() had none", x.fault(), -1);
        });
    }

    private static void count() {
        Edge.of(5, "0 PERSONS, 1 LINKS, 2 SUITS, 3 those that are JUDGED, 4 REVERSED, 5 SHARE, 6 MUTUAL, 7 EACH, 8 ACTS that are kept, 9 bytes of the tape, 10 couples of JUDGMENTS that CLASH.", () -> {
            StringBuilder text = new StringBuilder(Edge.persons(12));
            for (int i = 0; i < 10; i++) {
                text.append("suit a b 1 needs 1;judged ").append(i).append(i < 5 ? " 1 merits no 1;" : " 1 merits yes 1;");
            }
            BarredSuits x = Edge.told(text.toString());
            for (int i = 0; i < 24; i++) {
                x.tie(2, 3, i, -1);
            }
            x.rule(0, 100);
            x.rule(1, 2);
            x.rule(2, 1);
            Check.feedText(x, Edge.times(" ", 600));
            int[] full = {12, 24, 10, 10, 0, 100, 2, 1, 12, 600, 25};
            for (int what = 0; what <= 10; what++) {
                Edge.due("full: count(" + what + ")", x.count(what), full[what]);
            }
            for (int i = 0; i < 10; i++) {
                x.reverse(i);
            }
            Edge.due("all reversed", x.count(4) * 1000 + x.count(3) * 10 + x.count(10), 10100);
        });
        Edge.of(5, "NoSuchElementException: another what.", () -> {
            BarredSuits x = Edge.told(BASE);
            Edge.noSuch("count(11)", () -> x.count(11));
            for (int what : FAR) {
                Edge.noSuch("count(" + what + ")", () -> x.count(what));
            }
        });
    }

    private static void letterAndLink() {
        Edge.of(6, "Letter k (0 to 5) of a PERSON's NAME (1 to 26; 0 behind it).", () -> {
            BarredSuits x = Edge.told("person azmzaz;person z;person a;");
            int[] letters = {1, 26, 13, 26, 1, 26};
            for (int k = 0; k < 6; k++) {
                Edge.due("six letters, " + k, x.letter(0, k), letters[k]);
                Edge.due("one letter, " + k, x.letter(1, k), k == 0 ? 26 : 0);
            }
            Check.desk(x, "person b;");
            Edge.due("nothing is left of a longer name", x.letter(0, 0) * 10 + x.letter(0, 1), 20);
        });
        Edge.of(6, "NoSuchElementException: no such PERSON, letter.", () -> {
            BarredSuits x = Edge.told("person ab;person cd;");
            Edge.noSuch("letter(2, 0)", () -> x.letter(2, 0));
            Edge.noSuch("letter(0, 6)", () -> x.letter(0, 6));
            for (int far : FAR) {
                Edge.noSuch("letter(" + far + ", 0)", () -> x.letter(far, 0));
                Edge.noSuch("letter(0, " + far + ")", () -> x.letter(0, far));
            }
        });
        Edge.of(7, "Of a LINK: 0 p, 1 q, 2 whether it is a RULER's (1, 0), 3 its DAY, 4 its second DAY (9999 of HEIRS).", () -> {
            BarredSuits x = Edge.told("person a;person b;heir a b 0;ruler b a 9999 9999;heir b a 9999;ruler a b 0 0;");
            int[][] links = {{0, 1, 0, 0, 9999}, {1, 0, 1, 9999, 9999}, {1, 0, 0, 9999, 9999}, {0, 1, 1, 0, 0}};
            for (int link = 0; link < 4; link++) {
                for (int what = 0; what < 5; what++) {
                    Edge.due("link(" + link + ", " + what + ")", x.link(link, what), links[link][what]);
                }
            }
        });
        Edge.of(7, "NoSuchElementException: no such LINK, another what.", () -> {
            BarredSuits x = Edge.told(BASE);
            Edge.noSuch("link(2, 0)", () -> x.link(2, 0));
            Edge.noSuch("link(0, 5)", () -> x.link(0, 5));
            for (int far : FAR) {
                Edge.noSuch("link(" + far + ", 0)", () -> x.link(far, 0));
                Edge.noSuch("link(0, " + far + ")", () -> x.link(0, far));
            }
        });
    }

    private static void suit() {
        Edge.of(8, "0 PLAINTIFF, 1 DEFENDANT, 2 FILED, 3 FACTS, 4 NEEDS, 5 BUTS (bits)", () -> {
            BarredSuits x = Edge.told(P4 + "suit d c 9999 facts 0 30 needs 30 buts 0;suit a b 0;");
            int[][] suits = {{3, 2, 9999, 1 | 1 << 30, 1 << 30, 1}, {0, 1, 0, 0, 0, 0}};
            for (int suit = 0; suit < 2; suit++) {
                for (int what = 0; what < 6; what++) {
                    Edge.due("suit(" + suit + ", " + what + ")", x.suit(suit, what), suits[suit][what]);
                }
            }
        });
        Edge.of(8, "6 DAY of its JUDGMENT (NONE: it isn't JUDGED), 7 whether on the MERITS (1, 0), 8 whether REVERSED (1, 0)", () -> {
            BarredSuits x = Edge.told(P4 + "suit a b 0;suit a b 0;judged 1 0 form;suit a b 0;judged 2 9999 merits;reversed 2;");
            int[][] suits = {{-1, 0, 0}, {0, 0, 0}, {9999, 1, 1}};
            for (int suit = 0; suit < 3; suit++) {
                for (int what = 6; what < 9; what++) {
                    Edge.due("suit(" + suit + ", " + what + ")", x.suit(suit, what), suits[suit][what - 6]);
                }
            }
        });
        Edge.of(8, "9 FOUND yes, 10 FOUND no, 11 not TRIED of these (bits)", () -> {
            BarredSuits x = Edge.told(P4 + "suit a b 0 needs 0 30 buts 1 29;judged 0 0 form yes 30 1 no 0 29 untried 0 30;suit a b 0 needs 1;");
            Edge.due("yes", x.suit(0, 9), 1 << 30 | 2);
            Edge.due("no", x.suit(0, 10), 1 | 1 << 29);
            Edge.due("not tried", x.suit(0, 11), 1 | 1 << 30);
            Edge.due("of one that isn't judged", x.suit(1, 9) | x.suit(1, 10) | x.suit(1, 11), 0);
            x.find(0, 30, -1, true);
            Edge.due("one that isn't found is none of them", x.suit(0, 11), 1);
        });
        Edge.of(8, "12 who WINS (0, 1; NONE: not JUDGED on the MERITS; a REVERSED one as if it weren't)", () -> {
            BarredSuits x = Edge.told(P4 + "suit a b 0;suit a b 0;judged 1 0 form;suit a b 0;judged 2 0 merits;reversed 2;suit a b 0 needs 1;judged 3 0 merits;reversed 3;");
            int[] wins = {-1, -1, 0, 1};
            for (int suit = 0; suit < 4; suit++) {
                Edge.due("suit(" + suit + ", 12)", x.suit(suit, 12), wins[suit]);
            }
        });
        Edge.of(8, "13 NECESSARY, 14 SETTLED (bits; 0 without; of a REVERSED one NECESSARY as if it weren't, SETTLED 0).", () -> {
            BarredSuits x = Edge.told(P4 + "suit a b 0 needs 30;suit a b 0 needs 30;judged 1 0 form yes 30;suit a b 0 needs 30;judged 2 0 merits yes 30;reversed 2;"
                    + "suit a b 0 needs 0 buts 30;judged 3 0 merits yes 0 no 30 untried 0;");
            Edge.due("not judged", x.suit(0, 13) | x.suit(0, 14), 0);
            Edge.due("for form", x.suit(1, 13) | x.suit(1, 14), 0);
            Edge.due("reversed: necessary", x.suit(2, 13), 1 << 30);
            Edge.due("reversed: settled", x.suit(2, 14), 0);
            Edge.due("necessary", x.suit(3, 13), 1 | 1 << 30);
            Edge.due("settled", x.suit(3, 14), 1 << 30);
        });
        Edge.of(8, "NoSuchElementException: no such SUIT, another what.", () -> {
            BarredSuits x = Edge.told(BASE);
            Edge.noSuch("suit(2, 0)", () -> x.suit(2, 0));
            Edge.noSuch("suit(0, 15)", () -> x.suit(0, 15));
            for (int far : FAR) {
                Edge.noSuch("suit(" + far + ", 0)", () -> x.suit(far, 0));
                Edge.noSuch("suit(0, " + far + ")", () -> x.suit(0, far));
            }
        });
    }

    private static void isBound() {
        Edge.of(9, "Whether a PERSON is BOUND by a JUDGMENT on a side (a REVERSED one binds, too, here).", () -> {
            BarredSuits x = Edge.told(Edge.persons(12) + "heir a l 0;suit a b 0;judged 0 0 form;");
            Edge.due("person 11", x.isBound(0, 0, 11), true);
            Edge.due("person 10", x.isBound(0, 0, 10), false);
            x.reverse(0);
            Edge.due("reversed, by a chain", x.isBound(0, 0, 11), true);
            Edge.due("reversed, the party", x.isBound(0, 1, 1), true);
            Edge.due("reversed, not on the other side", x.isBound(0, 1, 11), false);
        });
        Edge.of(9, "False: the SUIT isn't JUDGED.", () -> {
            BarredSuits x = Edge.told(BASE);
            for (int person = 0; person < 4; person++) {
                Edge.due("person " + person, x.isBound(1, 0, person) || x.isBound(1, 1, person), false);
            }
            x.judge(1, 12, false);
            Edge.due("once it is", x.isBound(1, 0, 2), true);
            x.undo();
            Edge.due("once it isn't any more", x.isBound(1, 0, 2), false);
        });
        Edge.of(9, "NoSuchElementException: no such SUIT, PERSON, side (0, 1).", () -> {
            BarredSuits x = Edge.told(BASE);
            Edge.noSuch("suit 2", () -> x.isBound(2, 0, 0) ? 1 : 0);
            Edge.noSuch("side 2", () -> x.isBound(0, 2, 0) ? 1 : 0);
            Edge.noSuch("person 4", () -> x.isBound(0, 0, 4) ? 1 : 0);
            Edge.noSuch("person 4 of one that isn't judged", () -> x.isBound(1, 0, 4) ? 1 : 0);
            Edge.noSuch("side 2 of one that isn't judged", () -> x.isBound(1, 2, 0) ? 1 : 0);
            for (int far : FAR) {
                Edge.noSuch("suit " + far, () -> x.isBound(far, 0, 0) ? 1 : 0);
                Edge.noSuch("side " + far, () -> x.isBound(0, far, 0) ? 1 : 0);
                Edge.noSuch("person " + far, () -> x.isBound(0, 0, far) ? 1 : 0);
            }
        });
    }

    private static void chain() {
        Edge.of(10, "THE CHAIN of a PERSON to a side: how many LINKS (k NONE), its k-th LINK (0 on).", () -> {
            StringBuilder text = new StringBuilder(Edge.persons(12));
            for (char q = 'l'; q > 'a'; q--) {
                text.append("heir ").append((char) (q - 1)).append(' ').append(q).append(" 9;");
            }
            BarredSuits x = Edge.told(text + "suit a b 0;judged 0 0 form;");
            Edge.due("the party: none", x.chain(0, 0, 0, -1), 0);
            Edge.due("one link", x.chain(0, 0, 1, -1) * 100 + x.chain(0, 0, 1, 0), 110);
            Edge.due("eleven links", x.chain(0, 0, 11, -1), 11);
            for (int k = 0; k < 11; k++) {
                Edge.due("link " + k, x.chain(0, 0, 11, k), 10 - k);
            }
            Edge.due("to the other side one less", x.chain(0, 1, 11, -1), 10);
            x.reverse(0);
            Edge.due("of a reversed one", x.chain(0, 0, 11, -1), 11);
            x.tie(0, 11, 9, -1);
            Edge.due("by a link more", x.chain(0, 0, 11, -1) * 100 + x.chain(0, 0, 11, 0), 111);
            x.cut(11);
            Edge.due("once it is gone", x.chain(0, 0, 11, -1), 11);
        });
        Edge.of(10, "NONE: it isn't BOUND so, the SUIT isn't JUDGED.", () -> {
            BarredSuits x = Edge.told(BASE);
            Edge.due("not on that side", x.chain(0, 1, 2, -1), -1);
            Edge.due("not on that side, a link", x.chain(0, 1, 2, 0), -1);
            Edge.due("not judged", x.chain(1, 0, 2, -1), -1);
            Edge.due("not judged, a link", x.chain(1, 0, 2, 0), -1);
        });
        Edge.of(10, "NoSuchElementException: no such SUIT, PERSON, side; behind that: no such k.", () -> {
            BarredSuits x = Edge.told(BASE);
            Edge.noSuch("suit 2", () -> x.chain(2, 0, 0, -1));
            Edge.noSuch("side 2", () -> x.chain(0, 2, 0, -1));
            Edge.noSuch("person 4", () -> x.chain(0, 0, 4, -1));
            Edge.noSuch("side 2 of one that isn't judged", () -> x.chain(1, 2, 0, -1));
            Edge.noSuch("person 4 of one that isn't judged", () -> x.chain(1, 0, 4, -1));
            Edge.noSuch("k 0 of none", () -> x.chain(0, 0, 0, 0));
            Edge.noSuch("k 1 of one", () -> x.chain(0, 0, 2, 1));
            Edge.noSuch("k -2", () -> x.chain(0, 0, 2, -2));
            Edge.noSuch("the least k", () -> x.chain(0, 0, 2, Integer.MIN_VALUE));
            Edge.noSuch("the greatest k", () -> x.chain(0, 0, 2, Integer.MAX_VALUE));
            Edge.due("no such k comes behind NONE", x.chain(0, 0, 1, 5), -1);
            for (int far : FAR) {
                Edge.noSuch("suit " + far, () -> x.chain(far, 0, 0, -1));
                Edge.noSuch("side " + far, () -> x.chain(0, far, 0, -1));
                Edge.noSuch("person " + far, () -> x.chain(0, 0, far, -1));
            }
        });
    }

    private static void two() {
        Edge.of(11, "0 FACTS that both have (bits), 1 whether they are SAME (1, 0), 2 whether the first is BARRED by the second (1, 0), 3 whether the first comes behind it (1, 0)", () -> {
            BarredSuits x = Edge.told(P4 + "suit a b 1 facts 0 30 7;judged 0 1 merits;suit a b 1 facts 30 0 8;suit a b 1;suit c d 1 facts 1;judged 3 1 merits;suit c d 1 facts 1;");
            Edge.due("barred by the fourth, not by the first", x.two(4, 3, 2) * 10 + x.two(4, 0, 2), 10);
            Edge.due("facts", x.two(0, 1, 0), 1 | 1 << 30);
            Edge.due("no facts", x.two(0, 2, 0), 0);
            Edge.due("same", x.two(0, 1, 1) * 10 + x.two(0, 2, 1), 10);
            Edge.due("barred, not the other way", x.two(1, 0, 2) * 10 + x.two(0, 1, 2), 10);
            Edge.due("behind, not the other way", x.two(1, 0, 3) * 10 + x.two(0, 1, 3), 10);
            Edge.due("one and the same: facts", x.two(0, 0, 0), 1 | 1 << 30 | 1 << 7);
            Edge.due("one and the same: same", x.two(0, 0, 1), 1);
            Edge.due("one and the same: not barred, not behind", x.two(0, 0, 2) + x.two(0, 0, 3), 0);
        });
        Edge.of(11, "4 whether the JUDGMENT of the first STANDS ON the second's (1, 0), 5 an ISSUE by which their JUDGMENTS CLASH (the least; NONE).", () -> {
            BarredSuits x = Edge.told(P4 + "each 1;suit a b 1 needs 0 5 30;judged 0 1 merits yes 0 5 30;suit a b 1 needs 0 5 30;judged 1 2 merits no 0 5 30;suit a b 2;");
            Edge.due("the least", x.two(0, 1, 5) + x.two(1, 0, 5), 0);
            x.find(0, 0, 1, false);
            Edge.due("the next", x.two(0, 1, 5), 5);
            x.find(1, 5, -1, true);
            Edge.due("the last", x.two(1, 0, 5), 30);
            x.find(1, 30, 1, true);
            Edge.due("none", x.two(0, 1, 5), -1);
            Edge.due("stands on", x.two(1, 0, 4), 1);
            Edge.due("not the other way", x.two(0, 1, 4), 0);
            Edge.due("not judged", x.two(2, 0, 4) * 10 + x.two(2, 0, 5), -1);
            Edge.due("itself", x.two(0, 0, 4) * 10 + x.two(0, 0, 5), -1);
        });
        Edge.of(11, "NoSuchElementException: no such SUITS, another what.", () -> {
            BarredSuits x = Edge.told(BASE);
            Edge.noSuch("two(2, 0, 0)", () -> x.two(2, 0, 0));
            Edge.noSuch("two(0, 2, 0)", () -> x.two(0, 2, 0));
            Edge.noSuch("two(0, 1, 6)", () -> x.two(0, 1, 6));
            for (int far : FAR) {
                Edge.noSuch("first " + far, () -> x.two(far, 0, 0));
                Edge.noSuch("second " + far, () -> x.two(0, far, 2));
                Edge.noSuch("what " + far, () -> x.two(0, 1, far));
            }
        });
    }

    private static void barred() {
        Edge.of(12, "SUITS by which a SUIT is BARRED (bits).", () -> {
            StringBuilder text = new StringBuilder("person a;person b;suit a b 9 facts 1;");
            for (int i = 1; i < 10; i++) {
                text.append("suit a b 1 facts 1;judged ").append(i).append(' ').append(i).append(" merits;");
            }
            BarredSuits x = Edge.told(text.toString());
            Edge.due("by nine", x.barred(0), 1022);
            Edge.due("by the one of day 1", x.barred(9), 2);
            Edge.due("not by itself", x.barred(1), 0);
        });
        Edge.of(12, "NoSuchElementException: no such SUIT.", () -> {
            BarredSuits x = Edge.told(BASE);
            Edge.noSuch("barred(2)", () -> x.barred(2));
            for (int far : FAR) {
                Edge.noSuch("barred(" + far + ")", () -> x.barred(far));
            }
        });
    }

    private static void held() {
        Edge.of(13, "Of an ISSUE of a SUIT: 0 the SUIT by which it is HELD (NONE: it is OPEN), 1 how (1 yes, 0 no; NONE), 2 how many SUITS hold it.", () -> {
            StringBuilder text = new StringBuilder("person a;person b;suit a b 9 needs 0 30 buts 1;");
            for (int i = 1; i < 10; i++) {
                text.append("suit a b 1 needs 0 30;judged ").append(i).append(" 9 merits yes 0 30;");
            }
            BarredSuits x = Edge.told(text.toString());
            Edge.due("issue 0", x.held(0, 0, 0) * 100 + x.held(0, 0, 1) * 10 + x.held(0, 0, 2), 919);
            Edge.due("issue 30", x.held(0, 30, 0) * 100 + x.held(0, 30, 1) * 10 + x.held(0, 30, 2), 919);
            Edge.due("open", x.held(0, 1, 0), -1);
            Edge.due("open, how", x.held(0, 1, 1), -1);
            Edge.due("open, how many", x.held(0, 1, 2), 0);
            Edge.due("held by the first suit", Edge.told("person a;person b;suit a b 1 needs 7;judged 0 1 merits no 7;suit a b 1 needs 7;").held(1, 7, 0), 0);
        });
        Edge.of(13, "NoSuchElementException: no such SUIT, it has not that ISSUE, another what.", () -> {
            BarredSuits x = Edge.told(BASE);
            Edge.noSuch("suit 2", () -> x.held(2, 1, 0));
            for (int issue : new int[] {0, 2, 5, 30, 31, 32, 33, 36, 65}) {
                Edge.noSuch("issue " + issue, () -> x.held(1, issue, 0));
            }
            Edge.noSuch("what 3", () -> x.held(1, 1, 3));
            Edge.noSuch("a fact is no issue", () -> Edge.told("person a;person b;suit a b 1 facts 1;").held(0, 1, 0));
            for (int far : FAR) {
                Edge.noSuch("suit " + far, () -> x.held(far, 1, 0));
                Edge.noSuch("issue " + far, () -> x.held(1, far, 0));
                Edge.noSuch("what " + far, () -> x.held(1, 1, far));
            }
        });
    }

    private static void issuesAndForced() {
        Edge.of(14, "Of a SUIT: its HELD ISSUES (what 0), OPEN ones (1; bits).", () -> {
            BarredSuits x = Edge.told("person a;person b;suit a b 1 needs" + Edge.row(0, 30) + ";judged 0 1 merits yes" + Edge.row(0, 30)
                    + ";suit a b 1 needs" + Edge.row(0, 30) + ";suit a b 0 buts 30;suit a b 9;");
            Edge.due("all held", x.issues(1, 0), Integer.MAX_VALUE);
            Edge.due("none open", x.issues(1, 1), 0);
            Edge.due("all open", x.issues(0, 1), Integer.MAX_VALUE);
            Edge.due("none held", x.issues(2, 0), 0);
            Edge.due("open 30", x.issues(2, 1), 1 << 30);
            Edge.due("without issues", x.issues(3, 0) | x.issues(3, 1), 0);
        });
        Edge.of(14, "NoSuchElementException: no such SUIT, another what.", () -> {
            BarredSuits x = Edge.told(BASE);
            Edge.noSuch("issues(2, 0)", () -> x.issues(2, 0));
            Edge.noSuch("issues(0, 2)", () -> x.issues(0, 2));
            for (int far : FAR) {
                Edge.noSuch("issues(" + far + ", 0)", () -> x.issues(far, 0));
                Edge.noSuch("issues(0, " + far + ")", () -> x.issues(0, far));
            }
        });
        Edge.of(15, "FORCED.", () -> {
            BarredSuits x = Edge.told("person a;person b;suit a b 1 facts 1 needs 0 30;judged 0 1 merits yes 0 30;suit a b 1 facts 1;suit a b 1 buts 30;suit a b 1 needs 30 0;suit a b 1 needs 30 1;");
            int[] forced = {2, 1, 0, -1};
            for (int suit = 1; suit <= 4; suit++) {
                Edge.due("forced(" + suit + ")", x.forced(suit), forced[suit - 1]);
            }
        });
        Edge.of(15, "NoSuchElementException: no such SUIT.", () -> {
            BarredSuits x = Edge.told(BASE);
            Edge.noSuch("forced(2)", () -> x.forced(2));
            for (int far : FAR) {
                Edge.noSuch("forced(" + far + ")", () -> x.forced(far));
            }
        });
    }

    private static void said(BarredSuits x, int suit, String want) {
        Edge.due("say(" + suit + ")", x.say(suit), want.length());
        Edge.alike("said", Check.saidText(x, want.length()), want);
        Edge.due("behind it", x.said(want.length()), -1);
    }

    private static void say() {
        Edge.of(16, "A SUIT is SAID: of each HELD ISSUE, rising, its number, y or n (as it is HELD), @ and the SUIT by which, commas between; then, if it is FORCED, ! and how: how many bytes.", () -> {
            BarredSuits x = Edge.told("person a;person b;suit a b 2 needs 9 10 1 4;suit a b 2;suit a b 0 needs 1;suit a b 2 needs 7 1;suit a b 2 facts 1 needs 10;"
                    + "suit a b 1 facts 1 needs 9 buts 10;judged 5 2 merits yes 9 no 10;suit a b 1 needs 1;judged 6 2 merits no 1;suit a b 2 needs 9;");
            said(x, 0, "1n@6,9y@5,10n@5!1");
            said(x, 1, "!0");
            said(x, 2, "");
            said(x, 3, "1n@6!1");
            said(x, 4, "10n@5!2");
            said(x, 7, "9y@5!0");
            BarredSuits y = Edge.told("person a;person b;suit a b 1 needs 30;judged 0 1 merits yes 30;suit a b 1 needs 30 29;");
            said(y, 1, "30y@0");
            StringBuilder all = new StringBuilder();
            for (int i = 0; i <= 30; i++) {
                all.append(i == 0 ? "" : ",").append(i).append("y@0");
            }
            BarredSuits full = Edge.told("person a;person b;suit a b 1 needs" + Edge.row(0, 30) + ";judged 0 1 merits yes" + Edge.row(0, 30) + ";suit a b 1 needs" + Edge.row(0, 30) + ";");
            said(full, 1, all + "!0");
        });
        Edge.of(16, "NoSuchElementException: no such SUIT.", () -> {
            BarredSuits x = Edge.told(BASE);
            int length = x.say(1);
            Edge.noSuch("say(2)", () -> x.say(2));
            for (int far : FAR) {
                Edge.noSuch("say(" + far + ")", () -> x.say(far));
            }
            Edge.alike("what was said stays", Check.saidText(x, length), "1y@0,3n@0!2");
        });
        Edge.of(17, "Byte i of what the latest say() SAID (as it was then, whatever came since);", () -> {
            BarredSuits x = Edge.told(BASE);
            x.say(1);
            x.reverse(0);
            x.image();
            Check.ask(x, "many 1=1");
            Check.desk(x, "person q;");
            Check.desk(x, "?");
            x.back();
            Edge.alike("as it was then", Check.saidText(x, 11), "1y@0,3n@0!2");
            Edge.due("another one", x.say(1), 0);
            Edge.due("nothing of the one ahead", x.said(0), -1);
        });
        Edge.of(17, "NONE: there is none such, nothing was SAID.", () -> {
            BarredSuits x = Edge.told(BASE);
            Edge.due("nothing was said", x.said(0), -1);
            x.say(1);
            Edge.due("the last byte", x.said(10), '2');
            for (int far : FAR) {
                Edge.due("said(" + far + ")", x.said(far), -1);
            }
            Edge.due("said(11)", x.said(11), -1);
            x.say(0);
            Edge.due("nothing was said of it", x.said(0), -1);
        });
    }

    private static void latest() {
        Edge.of(18, "The latest JUDGMENT that isn't REVERSED (the greatest DAY, of one DAY the greatest number) by which a PERSON is BOUND on some side; NONE: none.", () -> {
            BarredSuits x = Edge.told(P4 + "heir b c 9;suit a b 0;judged 0 9 form;suit b a 0;judged 1 9 merits;suit a b 0;judged 2 8 merits;suit a b 0;"
                    + "suit d a 0;judged 4 0 form;");
            Edge.due("of one day the greatest number", x.latest(0), 1);
            Edge.due("by a chain", x.latest(2), 1);
            Edge.due("day 0 is a day", x.latest(3), 4);
            x.reverse(1);
            Edge.due("not the reversed one", x.latest(0), 0);
            x.reverse(0);
            Edge.due("a day less", x.latest(0), 2);
            x.reverse(4);
            Edge.due("none", x.latest(3), -1);
        });
        Edge.of(18, "NoSuchElementException: no such PERSON.", () -> {
            BarredSuits x = Edge.told(BASE);
            Edge.noSuch("latest(4)", () -> x.latest(4));
            for (int far : FAR) {
                Edge.noSuch("latest(" + far + ")", () -> x.latest(far));
            }
        });
    }

    private static void goes() {
        Edge.of(19, "What would go, were a JUDGMENT REVERSED: SUITS (bits) that wouldn't be BARRED any more (what 0), with fewer HELD ISSUES (1), FORCED otherwise (2)", () -> {
            BarredSuits x = Edge.told("person a;person b;suit a b 1 facts 1 needs 1 2;judged 0 1 merits yes 1 2;suit a b 1 facts 1 needs 1;judged 1 2 merits yes 1;"
                    + "suit a b 2 facts 1 needs 1 2;suit a b 1 facts 1 needs 2;suit a b 2 needs 1;suit a b 2 needs 2;");
            Edge.due("barred by one alone: not by none", x.goes(0, 0), 2 | 8);
            Edge.due("of two bars one is left", x.goes(1, 0), 0);
            Edge.due("issue 2 is held by 0 alone, issue 1 by both", x.goes(0, 1), 2 | 4 | 8 | 32);
            Edge.due("held by another one then: not fewer", x.goes(1, 1), 0);
            Edge.due("forced otherwise", x.goes(0, 2), 2 | 8 | 32);
            Edge.due("nothing changes by the question", x.barred(2) * 10 + x.count(4), 30);
            x.find(1, 1, 0, true);
            Edge.due("held otherwise, forced otherwise", x.goes(1, 1) * 1000 + x.goes(1, 2), 16);
        });
        Edge.of(19, "FORCED otherwise (2)", () -> {
            BarredSuits x = Edge.told("person a;person b;suit a b 1 facts 1 needs 0;suit a b 1 facts 1 needs 0;judged 1 1 merits yes 0;suit a b 1 needs 0;");
            Edge.due("the first suit and the last", x.goes(1, 2), 5);
            Edge.due("the first alone isn't barred any more", x.goes(1, 0), 1);
            Edge.due("both have fewer", x.goes(1, 1), 5);
        });
        Edge.of(19, "whose JUDGMENT STANDS ON it (3), or on such a one, again and again (4).", () -> {
            StringBuilder text = new StringBuilder("person a;person b;");
            for (int i = 0; i < 10; i++) {
                text.append("suit a b ").append(i).append(" needs ").append(i).append(' ').append(i + 1);
                text.append(";judged ").append(i).append(' ').append(i).append(" merits yes ").append(i).append(' ').append(i + 1).append(';');
            }
            BarredSuits x = Edge.told(text.toString());
            Edge.due("the next", x.goes(0, 3), 2);
            Edge.due("all nine", x.goes(0, 4), 1022);
            Edge.due("of the last one none", x.goes(9, 3) + x.goes(9, 4), 0);
            BarredSuits wide = Edge.told("person a;person b;suit a b 1 needs 0 30;judged 0 1 merits yes 0 30;suit a b 1 needs 0;judged 1 2 form yes 0;suit a b 1 needs 30;judged 2 2 form yes 30;suit a b 1 needs 0;judged 3 2 form no 0;");
            Edge.due("two at once", wide.goes(0, 3) * 10 + wide.goes(0, 4), 66);
            BarredSuits y = Edge.told("person a;person b;suit a b 5 needs 1;suit a b 5 needs 1;judged 0 5 merits yes 1;judged 1 5 merits yes 1;");
            Edge.due("two of one day that stand on one another", y.goes(0, 3) * 10 + y.goes(0, 4), 23);
        });
        Edge.of(19, "0 of what isn't JUDGED, is REVERSED.", () -> {
            BarredSuits x = Edge.told(BASE);
            for (int what = 0; what <= 4; what++) {
                Edge.due("not judged, " + what, x.goes(1, what), 0);
            }
            x.judge(1, 12, true);
            x.find(1, 1, 1, true);
            Edge.due("ahead of the reversal", x.goes(0, 3), 2);
            x.reverse(0);
            for (int what = 0; what <= 4; what++) {
                Edge.due("reversed, " + what, x.goes(0, what), 0);
            }
        });
        Edge.of(19, "NoSuchElementException: no such SUIT, another what.", () -> {
            BarredSuits x = Edge.told(BASE);
            Edge.noSuch("goes(2, 0)", () -> x.goes(2, 0));
            Edge.noSuch("goes(0, 5)", () -> x.goes(0, 5));
            Edge.noSuch("goes(1, 5), not judged", () -> x.goes(1, 5));
            for (int far : FAR) {
                Edge.noSuch("goes(" + far + ", 0)", () -> x.goes(far, 0));
                Edge.noSuch("goes(0, " + far + ")", () -> x.goes(0, far));
            }
        });
    }

    private static void would() {
        Edge.of(20, "A SUIT of PLAINTIFF and DEFENDANT (sides: 12 times the one and the other, together) with FACTS, NEEDS, BUTS (bits), FILED on a DAY, were it told: SUITS by which it would be BARRED (what 0), HELD ISSUES (1), FORCED (2).", () -> {
            BarredSuits x = Edge.told(Edge.persons(12) + "suit l k 0 facts 0 30 needs 0 30;judged 0 9 merits yes 0 30;" + Edge.times("suit l k 9;", 9));
            int bits = 1 | 1 << 30;
            Edge.due("an eleventh one, barred", x.would(142, 9, bits, bits, 0, 0), 1);
            Edge.due("held", x.would(142, 9, bits, bits, 0, 1), bits);
            Edge.due("forced by the bar", x.would(142, 9, bits, bits, 0, 2), 2);
            Edge.due("forced", x.would(142, 9, 0, bits, 0, 2) * 10 + x.would(142, 9, 0, 0, bits, 2), 1);
            Edge.due("a day ahead", x.would(142, 8, bits, bits, 0, 0) | x.would(142, 8, bits, bits, 0, 1), 0);
            Edge.due("the last day, all bits", x.would(142, 9999, Integer.MAX_VALUE, 1, Integer.MAX_VALUE - 1, 1), bits);
            Edge.due("the first day, none", x.would(1, 0, 0, 0, 0, 2), 0);
            Edge.due("sides changed", x.would(131, 9, bits, bits, 0, 0), 0);
            Edge.due("it isn't told", x.count(2), 10);
        });
        Edge.of(20, "NoSuchElementException: no such PERSONS, both are one, another what.", () -> {
            BarredSuits x = Edge.told(P4);
            for (int sides : new int[] {4, 11, 12 * 4, 12 * 4 + 1, 12 * 12, 12 * 12 + 1, 0, 13, 26, 39}) {
                Edge.noSuch("sides " + sides, () -> x.would(sides, 0, 0, 0, 0, 0));
            }
            for (int far : FAR) {
                Edge.noSuch("sides " + far, () -> x.would(far, 0, 0, 0, 0, 0));
                Edge.noSuch("what " + far, () -> x.would(1, 0, 0, 0, 0, far));
            }
            Edge.noSuch("what 3", () -> x.would(1, 0, 0, 0, 0, 3));
            BarredSuits full = Edge.told(Edge.persons(12));
            Edge.due("the greatest sides", full.would(142, 0, 0, 0, 0, 2), 0);
            Edge.noSuch("both are the twelfth", () -> full.would(143, 0, 0, 0, 0, 0));
            Edge.noSuch("a thirteenth", () -> full.would(144, 0, 0, 0, 0, 0));
            Edge.noSuch("sides -1", () -> full.would(-1, 0, 0, 0, 0, 0));
        });
        Edge.of(20, "IllegalArgumentException (behind that): a NEED is a BUT, a set below 0, DAY.", () -> {
            BarredSuits x = Edge.told(P4);
            Edge.illegal("a need is a but", () -> x.would(1, 0, 0, 1 << 30, 1 << 30, 0));
            Edge.illegal("one of many", () -> x.would(1, 0, 0, Integer.MAX_VALUE, 1, 0));
            Edge.illegal("facts below 0", () -> x.would(1, 0, Integer.MIN_VALUE, 0, 0, 0));
            Edge.illegal("needs below 0", () -> x.would(1, 0, 0, -1, 0, 0));
            Edge.illegal("buts below 0", () -> x.would(1, 0, 0, 0, Integer.MIN_VALUE, 0));
            Edge.illegal("day -1", () -> x.would(1, -1, 0, 0, 0, 0));
            Edge.illegal("day 10000", () -> x.would(1, 10000, 0, 0, 0, 0));
            Edge.due("a fact may be a need", x.would(1, 0, 1, 1, 0, 0), 0);
            Edge.noSuch("behind no such persons", () -> x.would(0, -1, -1, 1, 1, 0));
            Edge.noSuch("behind another what", () -> x.would(1, -1, -1, 1, 1, 3));
        });
    }

    private static void freeTill() {
        Edge.of(21, "The last DAY (9999 at most) on which a SUIT, FILED then, wouldn't be BARRED by any; NONE: on none.", () -> {
            BarredSuits x = Edge.told(P4 + "suit a b 0 facts 1;judged 0 9 merits;suit a b 0 facts 1;judged 1 6 merits;suit a b 8 facts 1;"
                    + "suit c d 0 facts 1;suit b a 0 facts 1;suit a b 0;suit a b 0 facts 1;");
            Edge.due("a day ahead of the first bar", x.freeTill(2), 5);
            Edge.due("not by itself", x.freeTill(1), 8);
            Edge.due("by nobody", x.freeTill(3), 9999);
            Edge.due("the sides changed", x.freeTill(4), 9999);
            Edge.due("without facts", x.freeTill(5), 9999);
            x.judge(6, 0, true);
            Edge.due("on none", x.freeTill(2), -1);
            x.reverse(6);
            x.reverse(1);
            Edge.due("not by reversed ones", x.freeTill(2), 8);
            BarredSuits y = Edge.told("person a;person b;suit a b 0 facts 1;judged 0 1 merits;suit a b 0 facts 1;judged 1 9999 merits;suit a b 0 facts 1;");
            Edge.due("on the first day alone", y.freeTill(2), 0);
            Edge.due("till the last day but one", y.freeTill(0), 9998);
            y.reverse(0);
            Edge.due("the same of another one", y.freeTill(2), 9998);
            Edge.due("none is left", y.freeTill(1), 9999);
        });
        Edge.of(21, "NoSuchElementException: no such SUIT.", () -> {
            BarredSuits x = Edge.told(BASE);
            Edge.noSuch("freeTill(2)", () -> x.freeTill(2));
            for (int far : FAR) {
                Edge.noSuch("freeTill(" + far + ")", () -> x.freeTill(far));
            }
        });
    }

    private static void against() {
        Edge.of(22, "PERSONS (bits) against whom an ISSUE is SETTLED by some JUDGMENT (BOUND on either side).", () -> {
            BarredSuits x = Edge.told(Edge.persons(12) + "heir a l 5;suit a b 0 needs 0 30;judged 0 5 merits yes 0 30;suit c d 0 needs 30;judged 1 5 merits no 30;suit e f 0 needs 1;judged 2 5 form yes 1;");
            Edge.due("issue 0", x.against(0), 3 | 1 << 11);
            Edge.due("issue 30, by two", x.against(30), 15 | 1 << 11);
            Edge.due("for form", x.against(1), 0);
            x.reverse(0);
            Edge.due("one of them reversed", x.against(30), 12);
            Edge.due("reversed", x.against(0), 0);
        });
        Edge.of(22, "NoSuchElementException: no such ISSUE (0 to 30).", () -> {
            BarredSuits x = Edge.told(BASE);
            Edge.due("against(0)", x.against(0), 0);
            Edge.due("against(30)", x.against(30), 0);
            for (int issue : new int[] {31, 32, 33, 63, 64}) {
                Edge.noSuch("against(" + issue + ")", () -> x.against(issue));
            }
            for (int far : FAR) {
                Edge.noSuch("against(" + far + ")", () -> x.against(far));
            }
        });
    }
}
