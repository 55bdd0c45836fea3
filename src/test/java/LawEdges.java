/** The sentences of the terms that tell who wins, who is bound, what is barred, held, forced: each with a test of its own. */
final class LawEdges {
    private static final String P4 = "person a;person b;person c;person d;";

    private LawEdges() {
    }

    static void all() {
        winning();
        necessary();
        bound();
        chains();
        behind();
        same();
        barred();
        held();
        mutual();
        forced();
        clashes();
        standsOn();
    }

    private static void winning() {
        Edge.term(8, "By a JUDGMENT on the MERITS the PLAINTIFF WINS, if all NEEDS are FOUND yes and no BUT is; else the DEFENDANT WINS.", () -> {
            BarredSuits x = Edge.told(P4 + "suit a b 1;judged 0 1 merits;suit a b 1 needs 1 2;judged 1 1 merits yes 1;"
                    + "suit a b 1 needs 1 2;judged 2 1 merits yes 1 2;suit a b 1 needs 1 buts 2;judged 3 1 merits yes 1;"
                    + "suit a b 1 needs 1 buts 2;judged 4 1 merits yes 1 2;suit a b 1 needs 1 buts 2;judged 5 1 merits yes 1 no 2;"
                    + "suit a b 1 buts 2;judged 6 1 merits;suit a b 1 needs 1;judged 7 1 form yes 1;"
                    + "suit a b 1 needs 1;judged 8 1 merits yes 1 untried 1;");
            int[] wins = {0, 1, 0, 0, 1, 0, 0, -1, 0};
            for (int suit = 0; suit < wins.length; suit++) {
                Edge.due("suit " + suit, x.suit(suit, 12), wins[suit]);
            }
        });
    }

    private static void necessary() {
        Edge.term(8, "GROUNDS of a DEFENDANT who WINS: NEEDS FOUND no, BUTS FOUND yes.", () -> {
            BarredSuits x = Edge.told(P4 + "suit a b 1 needs 0 1 2 buts 3 4 30;judged 0 1 merits yes 0 3 30 no 1 4;each 1;");
            Edge.due("need 1, buts 3 and 30", x.suit(0, 13), 2 | 8 | 1 << 30);
        });
        Edge.term(8, "NECESSARY are, if the PLAINTIFF WINS, its NEEDS and the BUTS FOUND no;", () -> {
            BarredSuits x = Edge.told(P4 + "suit a b 1 needs 0 30 buts 3 4;judged 0 1 merits yes 0 30 no 4;suit a b 1;judged 1 1 merits;"
                    + "suit a b 1 buts 3;judged 2 1 merits;");
            Edge.due("a but that isn't found is none of them", x.suit(0, 13), 1 | 1 << 30 | 16);
            Edge.due("no need, no but", x.suit(1, 13), 0);
            Edge.due("no need, a but that isn't found", x.suit(2, 13), 0);
            x.rule(2, 1);
            Edge.due("EACH is nothing to it", x.suit(0, 13), 1 | 1 << 30 | 16);
        });
        Edge.term(8, "if the DEFENDANT WINS, its GROUNDS, if there is just one, or EACH is 1; else none.", () -> {
            BarredSuits x = Edge.told(P4 + "suit a b 1 needs 1 2 buts 3;judged 0 1 merits yes 1;"
                    + "suit a b 1 needs 1 2 buts 3;judged 1 1 merits no 2;suit a b 1 needs 1 2 buts 3;judged 2 1 merits yes 1 2 3;"
                    + "suit a b 1 needs 1 2 buts 3;judged 3 1 merits no 1 2;suit a b 1 needs 1 2 buts 3;judged 4 1 merits yes 3 no 2;");
            int[] alone = {0, 4, 8, 0, 0};
            int[] each = {0, 4, 8, 6, 12};
            for (int suit = 0; suit < 5; suit++) {
                Edge.due("suit " + suit, x.suit(suit, 13), alone[suit]);
            }
            x.rule(2, 1);
            for (int suit = 0; suit < 5; suit++) {
                Edge.due("EACH is 1, suit " + suit, x.suit(suit, 13), each[suit]);
            }
        });
        Edge.term(8, "SETTLED ISSUES of a JUDGMENT (on the MERITS, not REVERSED): NECESSARY ones that were TRIED, as they were FOUND.", () -> {
            BarredSuits x = Edge.told(P4 + "suit a b 1 needs 1 2 buts 3 4;judged 0 1 merits yes 1 2 no 3 untried 2;"
                    + "suit a b 1 needs 1;judged 1 1 form yes 1;suit a b 1 needs 1;judged 2 1 merits yes 1;reversed 2;"
                    + "suit a b 1 needs 1 2;judged 3 1 merits no 1 2 untried 2;");
            Edge.due("tried ones", x.suit(0, 14), 10);
            Edge.due("for form", x.suit(1, 14), 0);
            Edge.due("reversed", x.suit(2, 14), 0);
            Edge.due("two grounds, one of them tried", x.suit(3, 14), 0);
            x.rule(2, 1);
            Edge.due("the same with EACH", x.suit(3, 14), 2);
            Edge.due("as found there, no, by the latest", x.would(1, 9, 0, 2, 0, 2), 1);
        });
    }

    private static void bound() {
        Edge.term(9, "BOUND by a JUDGMENT on a side (0 the PLAINTIFF's, 1 the DEFENDANT's) are the PARTY of that side", () -> {
            BarredSuits x = Edge.told("person a;person b;suit b a 0;judged 0 0 form;");
            Edge.due("the plaintiff", x.isBound(0, 0, 1), true);
            Edge.due("the defendant", x.isBound(0, 1, 0), true);
            Edge.due("not on the other side", x.isBound(0, 1, 1) || x.isBound(0, 0, 0), false);
        });
        Edge.term(9, "who comes to it by a CHAIN: LINKS one behind the other, each from who is BOUND so:", () -> {
            BarredSuits x = Edge.told(P4 + "person e;heir c d 9;heir a c 20;heir d a 9;ruler e a 0 9999;suit a b 1;judged 0 9 form;");
            Edge.due("by a link told ahead of the one to c", x.isBound(0, 0, 3), true);
            Edge.due("not from q to p", x.isBound(0, 0, 4), false);
            Edge.due("only on that side", x.isBound(0, 1, 2), false);
            x.cut(1);
            Edge.due("without who is between", x.isBound(0, 0, 3), false);
        });
        Edge.term(9, "an HEIR LINK, if its DAY is the DAY of the JUDGMENT or later", () -> {
            BarredSuits x = Edge.told(P4 + "person e;person f;heir a c 7;heir a d 8;heir a e 9;heir a f 9999;suit a b 0;judged 0 8 form;"
                    + "suit a b 0;judged 1 9999 form;suit a b 0;judged 2 0 form;");
            boolean[] wanted = {false, true, true, true};
            for (int person = 2; person <= 5; person++) {
                Edge.due("person " + person, x.isBound(0, 0, person), wanted[person - 2]);
                Edge.due("on the last day, person " + person, x.isBound(1, 0, person), person == 5);
                Edge.due("on the first day, person " + person, x.isBound(2, 0, person), true);
            }
        });
        Edge.term(9, "a RULER LINK, if that DAY is one of its DAYS.", () -> {
            BarredSuits x = Edge.told(P4 + "person e;person f;ruler b c 0 7;ruler b d 8 8;ruler b e 9 9999;ruler b f 0 9999;suit a b 0;judged 0 8 form;"
                    + "suit a b 0;judged 1 7 form;suit a b 0;judged 2 9 form;suit a b 0;judged 3 0 form;suit a b 0;judged 4 9999 form;");
            boolean[][] wanted = {{false, true, false, true}, {true, false, false, true}, {false, false, true, true},
                {true, false, false, true}, {false, false, true, true}};
            for (int suit = 0; suit < 5; suit++) {
                for (int person = 2; person <= 5; person++) {
                    Edge.due("suit " + suit + ", person " + person, x.isBound(suit, 1, person), wanted[suit][person - 2]);
                }
            }
        });
    }

    private static void chains() {
        Edge.term(10, "THE CHAIN of a PERSON: the shortest, of several the first by numbers of its LINKS.", () -> {
            BarredSuits x = Edge.told(P4 + "person e;heir c d 9;heir b d 9;heir a c 9;heir a b 9;heir b c 9;heir d a 9;suit a e 5;judged 0 5 form;");
            Edge.due("two links", x.chain(0, 0, 3, -1), 2);
            Edge.due("by 2 and 0, not by 3 and 1", x.chain(0, 0, 3, 0) * 10 + x.chain(0, 0, 3, 1), 20);
            Edge.due("one link to c, not two", x.chain(0, 0, 2, -1) * 10 + x.chain(0, 0, 2, 0), 12);
            Edge.due("of the party, in spite of a ring", x.chain(0, 0, 0, -1), 0);
            x.tie(0, 3, 9, -1);
            Edge.due("shorter by the last link", x.chain(0, 0, 3, -1) * 10 + x.chain(0, 0, 3, 0), 16);
            x.tie(0, 3, 9, -1);
            Edge.due("the first of two links", x.chain(0, 0, 3, 0), 6);
        });
    }

    private static void behind() {
        Edge.term(11, "A SUIT B comes behind a JUDGMENT of A, if A is another SUIT, JUDGED, not REVERSED, and B was FILED on the DAY of that JUDGMENT or later.", () -> {
            BarredSuits x = Edge.told(P4 + "suit a b 5;judged 0 8 form;suit c d 7;suit c d 8;suit c d 9;suit a b 8;judged 4 8 form;");
            Edge.due("a day ahead", x.two(1, 0, 3), 0);
            Edge.due("on the day", x.two(2, 0, 3), 1);
            Edge.due("a day later", x.two(3, 0, 3), 1);
            Edge.due("not behind itself", x.two(4, 4, 3), 0);
            Edge.due("not behind one that isn't judged", x.two(3, 2, 3), 0);
            x.reverse(0);
            Edge.due("not behind a reversed one", x.two(3, 0, 3), 0);
            BarredSuits y = Edge.told(P4 + "suit a b 0;judged 0 9999 form;suit a b 9998;suit a b 9999;suit a b 0;judged 3 0 form;");
            Edge.due("the last day", y.two(1, 0, 3) * 10 + y.two(2, 0, 3), 1);
            Edge.due("the first day", y.two(0, 3, 3), 1);
        });
    }

    private static void same() {
        Edge.term(11, "SAME: how many FACTS both have, by 100, are SHARE times the FACTS of that with fewer, or more", () -> {
            BarredSuits x = Edge.told(P4 + "suit a b 1 facts 1 2;suit a b 1 facts 2 3 4 5;suit a b 1 facts 2 6 7;"
                    + "suit a b 1 facts" + Edge.row(0, 30) + ";suit a b 1 facts 2;suit a b 1 facts 8 1 30;"
                    + "suit a b 1 facts 10 11 12;suit a b 1 facts 11 12 13;");
            Edge.due("1 of 2 is 50", x.two(0, 1, 1), 1);
            Edge.due("1 of 3 is not", x.two(1, 2, 1), 0);
            int[][] edges = {{51, 0, 1, 0}, {33, 1, 2, 1}, {34, 1, 2, 0}, {100, 0, 3, 1}, {100, 3, 3, 1}, {100, 4, 1, 1},
                {100, 0, 1, 0}, {1, 0, 5, 1}, {66, 6, 7, 1}, {67, 6, 7, 0}};
            for (int[] edge : edges) {
                x.rule(0, edge[0]);
                Edge.due("SHARE " + edge[0] + " of " + edge[1] + " and " + edge[2], x.two(edge[1], edge[2], 1), edge[3]);
                Edge.due("the other way, SHARE " + edge[0], x.two(edge[2], edge[1], 1), edge[3]);
            }
        });
        Edge.term(11, "(none of them: not SAME)", () -> {
            BarredSuits x = Edge.told(P4 + "share 1;suit a b 1;suit a b 1;suit a b 1 facts 1;suit a b 1 facts 2 3;");
            Edge.due("both without", x.two(0, 1, 1), 0);
            Edge.due("one without", x.two(0, 2, 1) + x.two(2, 0, 1), 0);
            Edge.due("itself, without", x.two(0, 0, 1), 0);
            Edge.due("none that both have", x.two(2, 3, 1), 0);
        });
    }

    private static void barred() {
        Edge.term(12, "B is BARRED by A, if it comes behind it, A was judged on the MERITS, both are SAME, B's PLAINTIFF is BOUND by A on the PLAINTIFF's side and its DEFENDANT on the DEFENDANT's.", () -> {
            String suits = "suit a b 8 facts 1;suit a b 7 facts 1;suit a b 9;suit a c 9 facts 1;suit c b 9 facts 1;suit b a 9 facts 1;";
            BarredSuits x = Edge.told(P4 + "suit a b 5 facts 1;judged 0 8 merits;" + suits);
            int[] wanted = {0, 1, 0, 0, 0, 0, 0};
            for (int suit = 0; suit < 7; suit++) {
                Edge.due("suit " + suit, x.barred(suit), wanted[suit]);
            }
            x.tie(1, 2, 8, -1);
            Edge.due("a defendant by a chain", x.barred(4), 1);
            Edge.due("not as a plaintiff", x.barred(5), 0);
            BarredSuits form = Edge.told(P4 + "suit a b 5 facts 1;judged 0 8 form;" + suits);
            Edge.due("for form", form.barred(1), 0);
        });
        Edge.term(12, "(LATE COUNTERCLAIM: the same with the sides of A changed, if RULE MUTUAL is 2.)", () -> {
            BarredSuits x = Edge.told(P4 + "suit a b 5 facts 1;judged 0 8 merits;suit b a 8 facts 1;suit b a 7 facts 1;suit b a 8 facts 2;suit b c 8 facts 1;");
            for (int mutual = 0; mutual <= 2; mutual++) {
                x.rule(1, mutual);
                Edge.due("MUTUAL " + mutual, x.barred(1), mutual == 2 ? 1 : 0);
                Edge.due("filed ahead, other facts, another party", x.barred(2) | x.barred(3) | x.barred(4), 0);
            }
            BarredSuits others = Edge.told(P4 + "mutual 2;suit d c 5 facts 1;judged 0 8 merits;suit c d 8 facts 1;suit c b 8 facts 1;suit b d 8 facts 1;");
            Edge.due("both, not one alone", others.barred(1) * 100 + others.barred(2) * 10 + others.barred(3), 100);
            BarredSuits form = Edge.told(P4 + "mutual 2;suit a b 5 facts 1;judged 0 8 form;suit b a 8 facts 1;");
            Edge.due("for form", form.barred(1), 0);
        });
    }

    private static void held() {
        Edge.term(13, "An ISSUE of B (a NEED, a BUT) is HELD by A as FOUND there, if B comes behind A, it is SETTLED by A", () -> {
            BarredSuits x = Edge.told(P4 + "suit a b 5 needs 0 30 2 buts 3;judged 0 8 merits yes 0 30 2 no 3 untried 2;"
                    + "suit a b 8 needs 0 2 buts 3 30;suit a b 7 needs 0 2 buts 3 30;suit a b 9 needs 3 4 buts 0;");
            Edge.due("on its day: as need, as but", x.issues(1, 0), 1 | 8 | 1 << 30);
            Edge.due("a day ahead", x.issues(2, 0), 0);
            Edge.due("a need there that is a but here", x.held(3, 0, 1), 1);
            Edge.due("a but there that is a need here", x.held(3, 3, 1), 0);
            Edge.due("not tried", x.held(1, 2, 0), -1);
            Edge.due("not A's", x.held(3, 4, 0), -1);
            x.reverse(0);
            Edge.due("reversed", x.issues(1, 0), 0);
        });
        Edge.term(13, "who it is against is BOUND by A (on either side): of FOUND yes of a NEED, FOUND no of a BUT the DEFENDANT of B, else its PLAINTIFF", () -> {
            BarredSuits x = Edge.told(P4 + "mutual 2;suit a b 5 needs 1 2 buts 3 4;judged 0 5 merits yes 1 2 no 3 4;"
                    + "suit c b 5 needs 1 3 buts 2 4;suit c a 5 needs 1 3 buts 2 4;suit a c 5 needs 1 3 buts 2 4;suit b c 5 needs 1 3 buts 2 4;"
                    + "suit c d 5 needs 1 3 buts 2 4;");
            Edge.due("against its defendant, bound on 1", x.issues(1, 0), 2 | 16);
            Edge.due("against its defendant, bound on 0", x.issues(2, 0), 2 | 16);
            Edge.due("against its plaintiff, bound on 0", x.issues(3, 0), 8 | 4);
            Edge.due("against its plaintiff, bound on 1", x.issues(4, 0), 8 | 4);
            Edge.due("against nobody who is bound", x.issues(5, 0), 0);
        });
        Edge.term(13, "Of several A by which one ISSUE is HELD that with the latest DAY counts, of one DAY the greatest number.", () -> {
            BarredSuits x = Edge.told(P4 + "suit a b 1 needs 1;judged 0 7 merits yes 1;suit a b 1 needs 1;judged 1 8 merits no 1;"
                    + "suit a b 1 needs 1;judged 2 8 merits yes 1;suit a b 1 needs 1;judged 3 7 merits no 1;suit a b 8 needs 1;suit a b 7 needs 1;");
            Edge.due("of 1 and 2", x.held(4, 1, 0) * 10 + x.held(4, 1, 1), 21);
            Edge.due("all four hold it", x.held(4, 1, 2), 4);
            Edge.due("of 0 and 3, on the day ahead", x.held(5, 1, 0) * 10 + x.held(5, 1, 1), 30);
            x.reverse(2);
            Edge.due("the next: 1", x.held(4, 1, 0) * 10 + x.held(4, 1, 1), 10);
            x.reverse(1);
            Edge.due("the next: 3", x.held(4, 1, 0), 3);
        });
        Edge.term(14, "OPEN ISSUES of B: those that aren't HELD.", () -> {
            BarredSuits x = Edge.told(P4 + "suit a b 1 needs 0;judged 0 2 merits yes 0;suit a b 2 needs" + Edge.row(0, 15) + " buts" + Edge.row(16, 30) + ";suit a b 2;suit a b 2 needs 0;");
            Edge.due("all but one", x.issues(1, 1), Integer.MAX_VALUE - 1);
            Edge.due("without issues", x.issues(2, 1) | x.issues(2, 0), 0);
            Edge.due("none is open", x.issues(3, 1), 0);
        });
    }

    /** Need 1 is against the defendant, need 2 against the plaintiff, of each suit that comes behind. */
    private static void mutual() {
        String judged = "suit a b 1 needs 1;judged 0 1 merits yes 1;suit a b 1 needs 2;judged 1 1 merits no 2;";
        String suits = "suit a b 1 needs 1 2;suit b a 1 needs 1 2;suit c b 1 needs 1 2;suit b c 1 needs 1 2;suit c a 1 needs 1 2;suit a c 1 needs 1 2;";
        int[][] wanted = {{6, 6, 0, 0, 0, 0}, {6, 6, 0, 4, 0, 4}, {6, 6, 2, 4, 2, 4}};
        String[] sentences = {
            "by MUTUAL 0 the other PARTY of B is BOUND by A on the other side than who it is against;",
            "by 1 that, or it is against the PLAINTIFF of B;",
            "by 2 always."};
        for (int rule = 0; rule <= 2; rule++) {
            int mutual = rule;
            Edge.term(13, sentences[rule], () -> {
                BarredSuits x = Edge.told(P4 + "mutual " + mutual + ";" + judged + suits);
                for (int suit = 2; suit < 8; suit++) {
                    Edge.due("suit " + suit, x.issues(suit, 0), wanted[mutual][suit - 2]);
                }
            });
        }
        Edge.term(13, "(BOUND on a side: if on both, any will do.)", () -> {
            BarredSuits x = Edge.told(P4 + "suit a b 1 needs 1;judged 0 1 merits yes 1;heir a c 1;heir b c 1;"
                    + "suit a c 1 needs 1;suit b c 1 needs 1;suit c a 1 needs 1;suit c b 1 needs 1;");
            for (int suit = 1; suit <= 4; suit++) {
                Edge.due("suit " + suit, x.issues(suit, 0), 2);
            }
            x.cut(1);
            Edge.due("on one side, the other party's", x.issues(1, 0), 0);
            Edge.due("on one side, not the other party's", x.issues(2, 0), 2);
        });
    }

    private static void forced() {
        String base = P4 + "suit a b 1 facts 1 needs 1 2 buts 3;judged 0 2 merits yes 1 2 no 3;suit a b 1 needs 4;judged 1 2 merits no 4;";
        Edge.term(15, "FORCED: of a SUIT that is BARRED by some SUIT: 2 (its DEFENDANT WINS by the bar);", () -> {
            BarredSuits x = Edge.told(base + "suit a b 2 facts 1 needs 1;suit a b 2 facts 1 needs 4;suit a b 2 facts 1;suit a b 1 facts 1;");
            Edge.due("though all is held for its plaintiff", x.forced(2), 2);
            Edge.due("though a need is held no", x.forced(3), 2);
            Edge.due("without issues", x.forced(4), 2);
            Edge.due("filed ahead", x.forced(5), 0);
        });
        Edge.term(15, "else 1 (its DEFENDANT WINS), if some NEED is HELD no or some BUT HELD yes;", () -> {
            BarredSuits x = Edge.told(base + "suit a b 2 needs 1 4;suit a b 2 needs 9 4;suit a b 2 buts 1;suit a b 2 needs 2 buts 1 3;suit a b 2 buts 4;");
            Edge.due("a need held no", x.forced(2), 1);
            Edge.due("though another one is open", x.forced(3), 1);
            Edge.due("a but held yes", x.forced(4), 1);
            Edge.due("though all else is held for its plaintiff", x.forced(5), 1);
            Edge.due("a but held no is none", x.forced(6), 0);
        });
        Edge.term(15, "else 0 (its PLAINTIFF WINS), if all its NEEDS are HELD yes and its BUTS HELD no; else NONE.", () -> {
            BarredSuits x = Edge.told(base + "suit a b 2 needs 1 2 buts 3 4;suit a b 2 needs 1 9;suit a b 2 needs 1 buts 9;suit a b 2;suit a b 1 needs 1;");
            Edge.due("all held", x.forced(2), 0);
            Edge.due("a need is open", x.forced(3), -1);
            Edge.due("a but is open", x.forced(4), -1);
            Edge.due("it has none", x.forced(5), 0);
            Edge.due("filed ahead: none is held", x.forced(6), -1);
        });
    }

    private static void clashes() {
        Edge.term(11, "CLASH of two JUDGMENTS (not REVERSED, on the MERITS): an ISSUE SETTLED by both, FOUND otherwise, and a PERSON who is BOUND by both.", () -> {
            BarredSuits x = Edge.told(P4 + "suit a b 1 needs 0 30;judged 0 1 merits yes 0 30;suit c d 1 needs 30;judged 1 1 merits no 30;"
                    + "suit a c 1 needs 30;judged 2 1 form no 30;suit b a 1 needs 30;judged 3 1 merits yes 30;suit b c 1 needs 30;judged 4 1 merits no 30 untried 30;"
                    + "suit d b 1 needs 30;judged 5 1 merits no 30;");
            Edge.due("nobody is bound by both", x.two(0, 1, 5), -1);
            Edge.due("for form", x.two(0, 2, 5), -1);
            Edge.due("found alike", x.two(0, 3, 5), -1);
            Edge.due("not tried", x.two(0, 4, 5), -1);
            Edge.due("a person on the defendant's side of both", x.two(0, 5, 5), 30);
            Edge.due("couples", x.count(10), 2);
            x.tie(0, 3, 1, -1);
            Edge.due("a person by a chain, on different sides", x.two(0, 1, 5), 30);
            x.reverse(0);
            Edge.due("reversed", x.two(0, 1, 5), -1);
            Edge.due("a judgment and itself", x.two(1, 1, 5), -1);
        });
    }

    private static void standsOn() {
        Edge.term(11, "STANDS ON: a JUDGMENT of B (not REVERSED) stands on that of A, if some FOUND ISSUE of B is HELD by A (A counting) and FOUND alike.", () -> {
            BarredSuits x = Edge.told(P4 + "suit a b 1 needs 1 2;judged 0 1 merits yes 1 2;suit a b 1 needs 1;judged 1 2 merits yes 1;"
                    + "suit a b 2 needs 1;judged 2 2 form yes 1 untried 1;suit a b 2 needs 1 2;judged 3 3 merits no 1;suit a b 2 needs 1 2;judged 4 3 merits yes 1;"
                    + "suit a b 2 needs 2;");
            Edge.due("for form, not tried", x.two(2, 1, 4), 1);
            Edge.due("not on one that doesn't count", x.two(2, 0, 4), 0);
            Edge.due("found otherwise", x.two(3, 1, 4), 0);
            Edge.due("found alike", x.two(4, 1, 4), 1);
            Edge.due("an issue that isn't found", x.two(4, 0, 4), 0);
            Edge.due("not judged", x.two(5, 0, 4), 0);
            x.find(4, 2, 1, true);
            Edge.due("on two", x.two(4, 0, 4) * 10 + x.two(4, 1, 4), 11);
            x.reverse(1);
            Edge.due("0 counts then", x.two(2, 0, 4) * 10 + x.two(2, 1, 4), 10);
            x.reverse(2);
            Edge.due("reversed itself", x.two(2, 0, 4), 0);
            for (int issue : new int[] {0, 30}) {
                BarredSuits y = Edge.told(P4 + "suit a b 1 needs " + issue + ";judged 0 1 merits no " + issue + ";suit a b 1 needs " + issue + ";judged 1 1 form no " + issue + ";");
                Edge.due("by issue " + issue, y.two(1, 0, 4), 1);
            }
        });
    }
}
