/** The sentences of the terms that tell what a text is, and its faults: each with a test of its own. */
final class TextEdges {
    private static final String AB = "person a;person b;";
    private static final String ONE = AB + "suit a b 5 needs 1 2 buts 3;";
    private static final int ALL_BITS = Integer.MAX_VALUE;

    private TextEdges() {
    }

    static void all() {
        bounds();
        judgments();
        rules();
        tokens();
        shapes();
        lines();
        names();
        faultsOfPlace();
        faultsOfNumbers();
        faultsOfNames();
        faultsOfMany();
    }

    /** A number at the end of a text that is fine up to it: it is taken, or it is fault 2 at its first byte. */
    private static void numberAt(String ahead, String number, String behind, boolean taken) {
        Edge.fault(ahead + number + behind, taken ? 0 : 2, taken ? -1 : ahead.length());
    }

    private static void dayAt(String ahead, String behind) {
        numberAt(ahead, "0", behind, true);
        numberAt(ahead, "9999", behind, true);
        numberAt(ahead, "10000", behind, false);
    }

    private static void bounds() {
        Edge.term(5, "PERSONS 0 to at most 11, each with a NAME.", () -> {
            BarredSuits x = Edge.told(Edge.persons(12));
            Edge.due("twelve", x.count(0), 12);
            Edge.due("letter(11, 0)", x.letter(11, 0), 12);
            Edge.noSuch("letter(12, 0)", () -> x.letter(12, 0));
            Edge.due("nobody", Edge.told("").count(0), 0);
        });
        Edge.term(7, "LINKS (at most 24), each from a PERSON p to another one q", () -> {
            BarredSuits x = Edge.told(AB + Edge.times("heir a b 1;", 23) + "ruler b a 2 3;");
            Edge.due("twenty-four", x.count(1), 24);
            Edge.due("link(23, 0)", x.link(23, 0), 1);
            Edge.noSuch("link(24, 0)", () -> x.link(24, 0));
            Edge.due("a 25th by tie()", x.tie(0, 1, 1, -1), -1);
            Edge.noSuch("from one to that one", () -> x.tie(0, 0, 1, -1));
        });
        Edge.term(7, "HEIR (p's place became q's on a DAY) or RULER (q ruled what p did from a DAY to a DAY).", () -> {
            BarredSuits x = Edge.told(AB + "heir a b 0;heir a b 9999;ruler a b 0 0;ruler a b 9999 9999;ruler a b 0 9999;suit a b 0;judged 0 5 form;");
            int[][] days = {{0, 0, 9999}, {0, 9999, 9999}, {1, 0, 0}, {1, 9999, 9999}, {1, 0, 9999}};
            for (int link = 0; link < 5; link++) {
                for (int what = 2; what <= 4; what++) {
                    Edge.due("link(" + link + ", " + what + ")", x.link(link, what), days[link][what - 2]);
                }
            }
            Edge.due("q is bound by what p did, by the first link that carries", x.chain(0, 0, 1, 0), 1);
            Edge.due("p isn't by what q did", x.isBound(0, 1, 0), false);
        });
        Edge.term(8, "SUITS 0 to at most 9", () -> {
            BarredSuits x = Edge.told(AB + Edge.times("suit a b 1;", 9) + "suit b a 2;");
            Edge.due("ten", x.count(2), 10);
            Edge.due("suit(9, 0)", x.suit(9, 0), 1);
            Edge.noSuch("suit(10, 0)", () -> x.suit(10, 0));
        });
        Edge.term(3, "PLAINTIFF, DEFENDANT (unlike PERSONS)", () -> {
            Edge.fault(AB + "suit a a 1;", 3, 25);
            Edge.fault(AB + "suit b b 1;", 3, 25);
            Edge.fine(AB + "suit b a 1;");
        });
        Edge.term(3, "the DAY it was FILED (all DAYS 0 to 9999)", () -> {
            dayAt(AB + "suit a b ", ";");
            dayAt(AB + "heir a b ", ";");
            dayAt(AB + "ruler a b ", " 9999;");
            dayAt(AB + "ruler a b 0 ", ";");
            dayAt(AB + "suit a b 0;judged 0 ", " form;");
        });
        sets();
    }

    private static void sets() {
        Edge.term(8, "FACTS (a set of 0 to 30)", () -> {
            numberAt(AB + "suit a b 1 facts ", "31", ";", false);
            numberAt(AB + "suit a b 1 facts ", "32", ";", false);
            numberAt(AB + "suit a b 1 facts 0 30 ", "4294967296", ";", false);
            Edge.due("0 and 30", Edge.told(AB + "suit a b 1 facts 0 30;").suit(0, 3), 1 | 1 << 30);
            Edge.due("all", Edge.told(AB + "suit a b 1 facts" + Edge.row(0, 30) + ";").suit(0, 3), ALL_BITS);
            Edge.due("none", Edge.told(AB + "suit a b 1 facts;").suit(0, 3), 0);
        });
        Edge.term(8, "NEEDS (a set of ISSUES, 0 to 30)", () -> {
            numberAt(AB + "suit a b 1 needs ", "31", ";", false);
            numberAt(AB + "suit a b 1 needs ", "32", ";", false);
            Edge.due("0 and 30", Edge.told(AB + "suit a b 1 needs 30 0;").suit(0, 4), 1 | 1 << 30);
            Edge.due("all", Edge.told(AB + "suit a b 1 needs" + Edge.row(0, 30) + ";").suit(0, 4), ALL_BITS);
            Edge.due("none", Edge.told(AB + "suit a b 1 needs;").suit(0, 4), 0);
        });
        Edge.term(8, "BUTS (ISSUES that stand against it; none of them a NEED)", () -> {
            numberAt(AB + "suit a b 1 buts ", "31", ";", false);
            numberAt(AB + "suit a b 1 needs 0 30 buts 1 ", "30", ";", false);
            numberAt(AB + "suit a b 1 needs 0 30 buts 1 ", "0", ";", false);
            numberAt(AB + "suit a b 1 facts 1 needs 0 buts ", "1", ";", true);
            Edge.due("all", Edge.told(AB + "suit a b 1 buts" + Edge.row(0, 30) + ";").suit(0, 5), ALL_BITS);
            Edge.due("0 and 30", Edge.told(AB + "suit a b 1 needs 1 buts 0 30;").suit(0, 5), 1 | 1 << 30);
            numberAt(AB + "suit a b 1 needs" + Edge.row(0, 30) + " buts ", "0", ";", false);
        });
    }

    private static void judgments() {
        Edge.term(8, "A SUIT is JUDGED or not: on a DAY (FILED or later), on the MERITS or for FORM;", () -> {
            numberAt(ONE + "judged 0 ", "4", " form;", false);
            numberAt(ONE + "judged 0 ", "5", " form;", true);
            numberAt(ONE + "judged 0 ", "9999", " merits;", true);
            numberAt(ONE + "judged 0 ", "10000", " merits;", false);
            numberAt(AB + "suit a b 9999;judged 0 ", "9998", " form;", false);
            numberAt(AB + "suit a b 9999;judged 0 ", "9999", " form;", true);
            Edge.due("not judged", Edge.told(ONE).suit(0, 6), -1);
            Edge.due("judged on day 0", Edge.told(AB + "suit a b 0;judged 0 0 form;").suit(0, 6), 0);
        });
        Edge.term(8, "of its NEEDS and BUTS some are FOUND: yes or no, TRIED or not.", () -> {
            BarredSuits x = Edge.told(ONE + "judged 0 5 form yes 1 3 no 2 untried 3;");
            Edge.due("yes", x.suit(0, 9), 10);
            Edge.due("no", x.suit(0, 10), 4);
            Edge.due("not tried", x.suit(0, 11), 8);
            BarredSuits y = Edge.told(ONE + "judged 0 5 form;");
            Edge.due("none of them", y.suit(0, 9) | y.suit(0, 10) | y.suit(0, 11), 0);
        });
        Edge.term(25, "A JUDGMENT may be REVERSED (it counts as none then, but it stays JUDGED).", () -> {
            Edge.fault(ONE + "judged 0 5 form;reversed 0;judged 0 5 form;", 2, 80);
            BarredSuits x = Edge.told(ONE + "judged 0 5 merits yes 1 2;reversed 0;suit a b 5 needs 1;");
            Edge.due("judged", x.count(3), 1);
            Edge.due("reversed", x.count(4), 1);
            Edge.due("its day", x.suit(0, 6), 5);
            Edge.due("holds nothing", x.issues(1, 0), 0);
            Edge.due("judge()", x.judge(0, 5, true), false);
        });
    }

    private static void rules() {
        Edge.term(28, "RULES: SHARE (1 to 100; 50 at first)", () -> {
            numberAt("share ", "0", ";", false);
            numberAt("share ", "1", ";", true);
            numberAt("share ", "100", ";", true);
            numberAt("share ", "101", ";", false);
            BarredSuits x = new BarredSuits();
            Edge.due("at first", x.count(5), 50);
            Edge.due("the one told last", Edge.told("share 1;share 100;").count(5), 100);
            x.rule(0, 7);
            x.desk(0);
            Edge.due("at first again, told anew", x.count(5), 50);
        });
        Edge.term(28, "MUTUAL (0 to 2; 0 at first)", () -> {
            numberAt("mutual ", "0", ";", true);
            numberAt("mutual ", "2", ";", true);
            numberAt("mutual ", "3", ";", false);
            BarredSuits x = new BarredSuits();
            Edge.due("at first", x.count(6), 0);
            Edge.due("told", Edge.told("mutual 2;").count(6), 2);
            x.rule(1, 2);
            x.desk(0);
            Edge.due("at first again, told anew", x.count(6), 0);
        });
        Edge.term(28, "EACH (0, 1; 0 at first).", () -> {
            numberAt("each ", "0", ";", true);
            numberAt("each ", "1", ";", true);
            numberAt("each ", "2", ";", false);
            BarredSuits x = new BarredSuits();
            Edge.due("at first", x.count(7), 0);
            Edge.due("told", Edge.told("each 1;").count(7), 1);
            x.rule(2, 1);
            x.desk(0);
            Edge.due("at first again, told anew", x.count(7), 0);
        });
    }

    private static void tokens() {
        Edge.term(3, "A TEXT of at most 600 bytes tells all.", () -> {
            String text = AB + "suit a b 1";
            text = text + Edge.times(" ", 599 - text.length());
            BarredSuits x = new BarredSuits();
            Edge.due("all 600, the last one a sign", Check.desk(x, text + ";"), 1);
            Edge.due("none is left", x.count(9), 0);
            Check.feedText(x, text + ";");
            Edge.due("a 601st doesn't come", x.feed(0, 0, 0, 0, 0), -1);
            Edge.illegal("desk(601)", () -> x.desk(601));
            Edge.due("599 of them", x.desk(599), -11);
            Edge.due("their end", x.fault(), 599);
        });
        Edge.term(3, "TOKENS: a WORD is a row of small letters", () -> {
            Edge.fine("person az;person z;");
            for (char beside : new char[] {'`', '{', 'A', 'Z', '@', '['}) {
                Edge.fault("person a" + beside + ";", 1, 8);
                Edge.fault(beside + "person a;", 1, 0);
            }
            Edge.fault("persona;", 1, 0);
            Edge.fault("person a;heir a7;", 1, 15);
        });
        Edge.term(3, "a NUMBER a row of figures (it counts as what it is, 007 as 7)", () -> {
            Edge.due("007", Edge.told("share 007;").count(5), 7);
            Edge.due("zeros ahead", Edge.told("share " + Edge.times("0", 300) + "9;").count(5), 9);
            Edge.due("00", Edge.told("mutual 00;").count(6), 0);
            for (String beyond : new String[] {"4294967297", "18446744073709551617", "2147483648", "1000000000000", "10001",
                Edge.times("9", 400)}) {
                numberAt("each ", beyond, ";", false);
                numberAt(AB + "suit a b ", beyond, ";", false);
                numberAt(AB + "suit a b 1;judged ", beyond, " 1 form;", false);
            }
            Edge.fault("share 5/;", 1, 7);
            Edge.fault("share 5:;", 1, 7);
            Edge.fault("share -5;", 1, 6);
        });
        Edge.term(3, "any other byte but blanks (32, 10) is one by itself", () -> {
            for (char sign : new char[] {0, 9, 11, 13, 31, 33, 127, 128, 160, 225, 255}) {
                Edge.fault("person a;" + sign + "person b;", 1, 9);
                Edge.fault("person a" + sign + ";", 1, 8);
            }
            Edge.fault("person a;;", 1, 9);
            Edge.fine("person a ; \n");
        });
        Edge.term(3, "blanks stand where one likes, not in WORDS, NUMBERS.", () -> {
            Edge.fine("\n  person\n\na \n ;person b;suit a b 1facts1 2needs3buts 4;judged 0\n1form yes3no4untried 3 4 ; ");
            Edge.fault("per son a;", 1, 0);
            Edge.fault(AB + "heir a b 1 2;", 1, 29);
            Edge.fault(AB + "suit a b 1 fa cts;", 1, 29);
            Edge.due("two numbers", Edge.told(AB + "suit a b 1 facts 1 2;").suit(0, 3), 6);
        });
    }

    private static void shapes() {
        Edge.term(3, "In quotes is what stands there, * any number of times, | one of some, in brackets { }? what may be missing.", () -> {
            for (int parts = 0; parts < 8; parts++) {
                String facts = (parts & 1) == 0 ? "" : " facts 1 2";
                String needs = (parts & 2) == 0 ? "" : " needs 3 4";
                String buts = (parts & 4) == 0 ? "" : " buts 5 6";
                BarredSuits x = Edge.told(AB + "suit a b 1" + facts + needs + buts + ";");
                int want = ((parts & 1) * 6) | ((parts >> 1 & 1) * 24) | ((parts >> 2 & 1) * 96);
                Edge.due("parts " + parts, x.suit(0, 3) | x.suit(0, 4) | x.suit(0, 5), want);
                String yes = (parts & 1) == 0 ? "" : " yes 1";
                String no = (parts & 2) == 0 ? "" : " no 2";
                String untried = (parts & 4) == 0 ? "" : " untried";
                BarredSuits y = Edge.told(ONE + "judged 0 5 merits" + yes + no + untried + ";");
                Edge.due("found " + parts, y.suit(0, 9) | y.suit(0, 10), (parts & 1) * 2 | (parts >> 1 & 1) * 4);
            }
            Edge.fine(ONE + "judged 0 5 form yes no untried;");
            Edge.fault(AB + "suit a b 1 needs facts;", 1, 35);
            Edge.fault(AB + "suit a b 1 buts needs;", 1, 34);
            Edge.fault(AB + "suit a b 1 facts facts;", 1, 35);
            Edge.fault(ONE + "judged 0 5 form no yes;", 1, 65);
            Edge.fault(ONE + "judged 0 5 form untried no;", 1, 70);
            Edge.fault(ONE + "judged 0 5 merits form;", 1, 64);
        });
        Edge.term(3, "TEXT: (LINE ';')*.", () -> {
            BarredSuits x = Edge.told(ONE);
            Edge.due("no line", x.desk(0), 0);
            Edge.due("nobody", x.count(0), 0);
            Edge.fine("  \n ");
            Edge.fault(";", 1, 0);
            Edge.fault("share 1", 1, 7);
            Edge.fault("share 1 share 2;", 1, 8);
            Edge.fine(Edge.times("each 1;", 85));
        });
    }

    private static void lines() {
        Edge.term(3, "LINE: 'person' NAME |", () -> {
            Edge.fault("zerson a;", 1, 0);
            Edge.fault("persoz a;", 1, 0);
            Edge.fault("perso a;", 1, 0);
            Edge.fault("persons a;", 1, 0);
            Edge.fault("person", 1, 6);
            Edge.fault("person ;", 1, 7);
            Edge.fault("person a b;", 1, 9);
            Edge.fault("a;", 1, 0);
        });
        Edge.term(7, "'heir' NAME NAME NUMBER (p, q, DAY)", () -> {
            BarredSuits x = Edge.told(AB + "heir b a 9999;heir a b 0;");
            Edge.due("p, q, DAY", x.link(0, 0) * 100000 + x.link(0, 1) * 10000 + x.link(0, 3), 109999);
            Edge.due("DAY 0", x.link(1, 3), 0);
            Edge.fault(AB + "heir a b;", 1, 26);
            Edge.fault(AB + "heir a 1;", 1, 25);
            Edge.fault(AB + "heir a b 1 1;", 1, 29);
        });
        Edge.term(7, "'ruler' NAME NAME NUMBER NUMBER (p, q, DAYS; the second no less)", () -> {
            numberAt(AB + "ruler a b 5 ", "4", ";", false);
            numberAt(AB + "ruler a b 5 ", "5", ";", true);
            numberAt(AB + "ruler a b 5 ", "6", ";", true);
            numberAt(AB + "ruler a b 9999 ", "9998", ";", false);
            numberAt(AB + "ruler a b 9999 ", "9999", ";", true);
            numberAt(AB + "ruler a b 0 ", "0", ";", true);
            Edge.fault(AB + "ruler a b 5;", 1, 29);
            Edge.fault(AB + "ruler a b 5 6 7;", 1, 32);
        });
        Edge.term(8, "'suit' NAME NAME NUMBER (PLAINTIFF, DEFENDANT, FILED) {'facts' NUMBER*}? {'needs' NUMBER*}? {'buts' NUMBER*}?", () -> {
            BarredSuits x = Edge.told(AB + "suit b a 9999;suit a b 0;");
            Edge.due("PLAINTIFF, DEFENDANT, FILED", x.suit(0, 0) * 100000 + x.suit(0, 1) * 10000 + x.suit(0, 2), 109999);
            Edge.due("FILED on 0", x.suit(1, 2), 0);
            Edge.due("no FACTS, NEEDS, BUTS", x.suit(1, 3) | x.suit(1, 4) | x.suit(1, 5), 0);
            Edge.fault(AB + "suit a b;", 1, 26);
            Edge.fault(AB + "suit a b facts;", 1, 27);
            Edge.fault(AB + "suit a b 1 2;", 1, 29);
        });
        judgedLines();
        Edge.term(5, "'share' NUMBER | 'mutual' NUMBER | 'each' NUMBER.", () -> {
            for (String word : new String[] {"share", "mutual", "each"}) {
                Edge.fault(word + ";", 1, word.length());
                Edge.fault(word + " a;", 1, word.length() + 1);
                Edge.fault(word + " 1 1;", 1, word.length() + 3);
                Edge.fault(word, 1, word.length());
                Edge.fine(word + " 1;");
            }
        });
    }

    private static void judgedLines() {
        Edge.term(8, "'judged' NUMBER NUMBER ('merits' | 'form') {'yes' NUMBER*}? {'no' NUMBER*}? {'untried' NUMBER*}?", () -> {
            String all = AB + "suit a b 0 needs" + Edge.row(0, 30) + ";judged 0 9999 merits";
            BarredSuits x = Edge.told(all + " yes" + Edge.row(0, 30) + " untried" + Edge.row(0, 30) + ";");
            Edge.due("all yes, none tried", x.suit(0, 9) & x.suit(0, 11), Integer.MAX_VALUE);
            BarredSuits y = Edge.told(all + " no" + Edge.row(0, 30) + ";");
            Edge.due("all no, all tried", y.suit(0, 10) - y.suit(0, 11), Integer.MAX_VALUE);
            Edge.due("none yes", y.suit(0, 9), 0);
            Edge.fault(ONE + "judged;", 1, 52);
            Edge.fault(ONE + "judged 0;", 1, 54);
            Edge.fault(ONE + "judged 0 5;", 1, 56);
            Edge.fault(ONE + "judged 0 5 yes 1;", 1, 57);
            Edge.fault(ONE + "judged 0 5 form 1;", 1, 62);
        });
        Edge.term(23, "(a SUIT that isn't JUDGED, DAY; its ISSUES FOUND; those of these that weren't TRIED)", () -> {
            numberAt("judged ", "0", " 5 form;", false);
            numberAt(ONE + "judged ", "1", " 5 form;", false);
            numberAt(ONE + "suit a b 1;judged ", "1", " 5 form;", true);
            numberAt(ONE + "judged 0 5 form;judged ", "0", " 5 form;", false);
            numberAt(ONE + "judged 0 5 form yes ", "0", ";", false);
            numberAt(ONE + "judged 0 5 form yes ", "4", ";", false);
            numberAt(ONE + "judged 0 5 form no ", "31", ";", false);
            numberAt(ONE + "judged 0 5 form no ", "33", ";", false);
            numberAt(ONE + "judged 0 5 form yes 1 no 3 untried ", "2", ";", false);
            numberAt(ONE + "judged 0 5 form untried ", "1", ";", false);
            numberAt(ONE + "judged 0 5 form yes 1 no 3 untried 3 ", "1", ";", true);
        });
        Edge.term(25, "'reversed' NUMBER (a SUIT that is JUDGED and isn't REVERSED)", () -> {
            numberAt("reversed ", "0", ";", false);
            numberAt(ONE + "reversed ", "0", ";", false);
            numberAt(ONE + "judged 0 5 form;reversed ", "1", ";", false);
            numberAt(ONE + "judged 0 5 form;reversed ", "0", ";", true);
            numberAt(ONE + "judged 0 5 form;reversed 0;reversed ", "0", ";", false);
        });
    }

    private static void names() {
        Edge.term(6, "NAME: a WORD of 1 to 6 letters but person, told once by 'person', ahead of where it is asked.", () -> {
            BarredSuits x = Edge.told("person a;person abcdef;");
            Edge.due("one letter", x.letter(0, 0) * 10 + x.letter(0, 1), 10);
            Edge.due("six letters", x.letter(1, 5), 6);
            Edge.fault("person abcdefg;", 1, 7);
            Edge.fault("person person;", 1, 7);
            Edge.fault(AB + "heir person a 1;", 1, 23);
            Edge.fault(AB + "suit a person 1;", 1, 25);
            Edge.fine("person perso;person heir;person ruler;person suit;person judged;person share;person yes;heir heir ruler 1;");
            Edge.fault("person a;person a;", 3, 16);
            Edge.fault("person a;heir a b 1;person b;", 3, 16);
            Edge.fine("person abcdef;person abcdee;person abcde;person bbcdef;");
        });
    }

    private static void faultsOfPlace() {
        Edge.term(4, "FAULTS: the text is gone through from its first byte on, TOKEN by TOKEN; at the first TOKEN at which one of these is so", () -> {
            Edge.fault("share 0;person person;", 2, 6);
            Edge.fault("person person;share 0;", 1, 7);
            Edge.fault(AB + "heir a a 10000;", 3, 25);
            Edge.fault(AB + "suit a b 10000 needs 1 1", 2, 27);
            Edge.fault(AB + "suit a c 10000;", 3, 25);
        });
        Edge.term(4, "it is that (the first one of this list), its place the TOKEN's first byte", () -> {
            Edge.fault(AB + "heir a toolong 1;", 1, 25);
            Edge.fault(AB + "heir a 99999 1;", 1, 25);
            Edge.fault(AB + "heir person a 1;", 1, 23);
            Edge.fault(Edge.persons(12) + "persons x;", 1, 108);
            Edge.fault("  \n share 12345;", 2, 10);
        });
        Edge.term(4, "1 it can't stand there (the end, where the text can't end: its length;", () -> {
            Edge.fault("person", 1, 6);
            Edge.fault("person   \n", 1, 10);
            Edge.fault("person a", 1, 8);
            Edge.fault(AB + "suit a b 1 facts 1  ", 1, 38);
            Edge.fine("person a; ");
            BarredSuits x = new BarredSuits();
            Check.feedText(x, "person a;person b;");
            Edge.due("the first 15 bytes", x.desk(15), -11);
            Edge.due("their end", x.fault(), 15);
            Check.feedText(x, "person abcdefghij;");
            Edge.due("a word that the end cuts", x.desk(12), -11);
            Edge.due("the end behind it", x.fault(), 12);
        });
        Edge.term(4, "a WORD of 7 letters or more where a NAME must stand, too)", () -> {
            Edge.fine("person sixsix;");
            Edge.fault("person sevenab;", 1, 7);
            Edge.fault("person a;heir sevenab a 1;", 1, 14);
            Edge.fault("person a;suit a sevenab 1;", 1, 16);
            Edge.fault("person " + Edge.times("x", 500) + ";", 1, 7);
            Edge.fault("person sixsix;person sixsixa;", 1, 21);
        });
    }

    private static void faultsOfNumbers() {
        Edge.term(4, "2 a NUMBER that isn't as told (of a SUIT's ISSUES, FOUND ones, too; one told in this set, of yes and no in either, already)", () -> {
            numberAt(AB + "suit a b 1 facts 30 ", "30", ";", false);
            numberAt(AB + "suit a b 1 facts 0 1 ", "000", ";", false);
            numberAt(AB + "suit a b 1 needs 0 ", "0", ";", false);
            numberAt(AB + "suit a b 1 needs 0 buts 1 ", "1", ";", false);
            numberAt(AB + "suit a b 1 facts 1 needs ", "1", ";", true);
            numberAt(ONE + "judged 0 5 form yes 1 ", "1", ";", false);
            numberAt(ONE + "judged 0 5 form no 3 ", "3", ";", false);
            numberAt(ONE + "judged 0 5 form yes 1 no ", "1", ";", false);
            numberAt(ONE + "judged 0 5 form yes 1 untried 1 ", "1", ";", false);
            numberAt(ONE + "judged 0 5 form yes 1 untried ", "1", ";", true);
            numberAt(ONE + "judged 0 5 form yes ", "30", ";", false);
        });
    }

    private static void faultsOfNames() {
        Edge.term(4, "3 a NAME that is told already (of person), isn't told (elsewhere), the second one of LINKS, SUITS that is the first one", () -> {
            Edge.fault(AB + "person b;", 3, 25);
            Edge.fault("heir a b 1;", 3, 5);
            Edge.fault("person a;heir a b 1;", 3, 16);
            Edge.fault("person a;ruler b a 1 2;", 3, 15);
            Edge.fault("person a;suit a b 1;", 3, 16);
            Edge.fault("person ab;suit a ab 1;", 3, 15);
            Edge.fault("person a;suit a a 1;", 3, 16);
            Edge.fault("person a;heir a a 1;", 3, 16);
            Edge.fault("person a;ruler a a 1 2;", 3, 17);
        });
    }

    private static void faultsOfMany() {
        Edge.term(4, "4 one too many: the word of a 13th PERSON, 25th LINK, 11th SUIT.", () -> {
            String persons = Edge.persons(12);
            Edge.fine(persons);
            Edge.fault(persons + " person", 4, 109);
            Edge.fault(persons + "person a;", 4, 108);
            String links = AB + Edge.times("heir a b 1;", 24);
            Edge.fine(links);
            Edge.fault(links + "heir", 4, 282);
            Edge.fault(links + "ruler b b 2 1;", 4, 282);
            String suits = AB + Edge.times("suit a b 1;", 10);
            Edge.fine(suits);
            Edge.fault(suits + "suit", 4, 128);
            Edge.fault(suits + "suit a a 10000;", 4, 128);
        });
    }
}
