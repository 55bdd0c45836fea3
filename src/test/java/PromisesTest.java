/** For each promise of the document: ordinary inputs, the edges that it names, wrong inputs. */
public final class PromisesTest {
    private static final String PERSONS = "person a;person b;person c;person d;";
    private static final String BASE = PERSONS + "heir a c 10;ruler b d 0 20;"
            + "suit a b 5 facts 1 2 3 needs 1 2 buts 3;judged 0 8 merits yes 1 2 no 3;"
            + "suit c d 12 facts 2 3 needs 1 4 buts 3;";
    private static final int[] WRONG = {-1, Integer.MIN_VALUE, Integer.MAX_VALUE, 99};

    private PromisesTest() {
    }

    private static void due(String call, long got, long want) {
        Check.due(call, got, want);
    }

    private static void promise1New() {
        BarredSuits x = new BarredSuits();
        due("1 NONE", BarredSuits.NONE, -1);
        int[] counts = {0, 0, 0, 0, 0, 50, 0, 0, 0, 0, 0};
        for (int what = 0; what <= 10; what++) {
            due("1 count " + what, x.count(what), counts[what]);
        }
        due("1 fault", x.fault(), -1);
        due("1 said", x.said(0), -1);
        due("1 undo", x.undo(), -1);
        Check.due("1 back", x.back(), false);
        for (int i = 0; i < 31; i++) {
            due("1 against", x.against(i), 0);
        }
        Check.noSuch("1 suit", () -> x.suit(0, 0));
        Check.noSuch("1 letter", () -> x.letter(0, 0));
        Check.noSuch("1 latest", () -> x.latest(0));
    }

    private static void promise2Feed() {
        BarredSuits x = new BarredSuits();
        for (int i = 1; i <= 30; i++) {
            due("2 feed " + i, x.feed(0x20202020, 0x20202020, 0x20202020, 0x20202020, 0x20202020), i * 20);
        }
        due("2 feed beyond 600", x.feed(0, 0, 0, 0, 0), -1);
        due("2 none came", x.count(9), 600);
        due("2 all 600 are a text", x.desk(600), 0);
        due("2 empty then", x.count(9), 0);
        // The highest byte comes first: "person ab;" is a text, in no other order.
        x.feed(0x70657273, 0x6f6e2061, 0x623b2020, 0x20202020, 0x20202020);
        due("2 bytes in order", x.desk(20), 0);
        due("2 letters", x.letter(0, 0) * 100 + x.letter(0, 1), 102);
        x.feed(0xffffffff, 0, 0, 0, 0);
        due("2 bytes above 127", x.desk(1), -11);
    }

    private static void promise3Desk() {
        BarredSuits x = Check.told(BASE + "share 60;mutual 1;each 1;");
        due("3 rules", x.count(5) * 100 + x.count(6) * 10 + x.count(7), 6011);
        x.rule(2, 0);
        Check.feedText(x, "person q;");
        Check.illegal("3 too many", () -> x.desk(21));
        Check.illegal("3 below 0", () -> x.desk(-1));
        Check.illegal("3 far below 0", () -> x.desk(Integer.MIN_VALUE));
        due("3 nothing changed", x.count(9) * 100 + x.count(8), 2001);
        due("3 a fault", Check.desk(x, "foo"), -11);
        due("3 the tape is empty", x.count(9), 0);
        due("3 all else stays", x.count(0) * 100 + x.count(2) * 10 + x.count(8), 421);
        due("3 told anew", Check.desk(x, "person a;person b;suit a b 1;suit b a 2;suit a b 0;"), 3);
        due("3 rules as at first", x.count(5) * 100 + x.count(6) * 10 + x.count(7), 5000);
        due("3 no acts, links", x.count(8) + x.count(1), 0);
        due("3 the rest of the tape goes", Check.feedText(x, "person a;garbage"), 16);
        due("3 first bytes only", x.desk(9), 0);
        due("3 empty", x.count(9), 0);
        due("3 nothing told", x.desk(0), 0);
        due("3 nobody", x.count(0), 0);
    }

    private static void fault(String text, int which, int place) {
        BarredSuits x = new BarredSuits();
        due("4 desk " + text, Check.desk(x, text), which == 0 ? x.count(2) : -10 - which);
        due("4 fault of " + text, x.fault(), place);
    }

    private static void promise4Fault() {
        fault("person", 1, 6);
        fault("person  \n", 1, 9);
        fault("person a", 1, 8);
        fault(";", 1, 0);
        fault("7;", 1, 0);
        fault("Person a;", 1, 0);
        fault("\tperson a;", 1, 0);
        fault("person person;", 1, 7);
        fault("person abcdefg;", 1, 7);
        fault("person abcdef;", 0, -1);
        fault("person 1;", 1, 7);
        fault("person a b;", 1, 9);
        fault("person a;\n person a;", 3, 18);
        fault("person a;heir a a 1;", 3, 16);
        fault("person a;heir a b 1;", 3, 16);
        fault("person a;heir person a 1;", 1, 14);
        fault("person a;heir toolong a 1;", 1, 14);
        fault("person a;suit b a 1;", 3, 14);
        fault("person suit;person facts;suit suit facts 1 facts 1;", 0, -1);
        String two = "person a;person b;";
        fault(two + "heir a b 10000;", 2, 27);
        fault(two + "heir a b 9999;", 0, -1);
        fault(two + "heir a b 00000000000000009999;", 0, -1);
        fault(two + "heir a b 99999999999999999999;", 2, 27);
        fault(two + "heir a b 4294967296;", 2, 27);
        fault(two + "heir a b 1 2;", 1, 29);
        fault(two + "ruler a b 5 4;", 2, 30);
        fault(two + "ruler a b 5 5;", 0, -1);
        fault(two + "ruler a b 5;", 1, 29);
        fault(two + "suit a b 1 facts 30 0;", 0, -1);
        fault(two + "suit a b 1 facts 31;", 2, 35);
        fault(two + "suit a b 1 facts 3 4 3;", 2, 39);
        fault(two + "suit a b 1 facts;", 0, -1);
        fault(two + "suit a b 1facts1needs1;", 0, -1);
        fault(two + "suit a b 1 needs 1 facts 1;", 1, 37);
        fault(two + "suit a b 1 buts 1 needs 2;", 1, 36);
        fault(two + "suit a b 1 facts 1 facts 2;", 1, 37);
        fault(two + "suit a b 1 needs 1 2 buts 3 2;", 2, 46);
        fault(two + "suit a b 1 yes 1;", 1, 29);
        String one = two + "suit a b 5 needs 1 2 buts 3;";
        fault(one + "judged 1 5 merits;", 2, 53);
        fault(one + "judged a 5 merits;", 1, 53);
        fault(one + "judged 0 4 merits;", 2, 55);
        fault(one + "judged 0 5 merit;", 1, 57);
        fault(one + "judged 0 5;", 1, 56);
        fault(one + "judged 0 5 form yes 1 no 2 3 untried 1 2 3;", 0, -1);
        fault(one + "judged 0 5 form yes 1 1;", 2, 68);
        fault(one + "judged 0 5 form yes 4;", 2, 66);
        fault(one + "judged 0 5 form yes 1 no 1;", 2, 71);
        fault(one + "judged 0 5 form no 2 2;", 2, 67);
        fault(one + "judged 0 5 form yes 1 untried 2;", 2, 76);
        fault(one + "judged 0 5 form yes 1 untried 1 1;", 2, 78);
        fault(one + "judged 0 5 form no 1 yes 2;", 1, 67);
        fault(one + "judged 0 5 form;judged 0 5 form;", 2, 69);
        fault(one + "reversed 0;", 2, 55);
        fault(one + "judged 0 5 form;reversed 0;", 0, -1);
        fault(one + "judged 0 5 form;reversed 0;reversed 0;", 2, 82);
        fault(one + "judged 0 5 form;reversed 0;judged 0 5 form;", 2, 80);
        fault("share 0;", 2, 6);
        fault("share 101;", 2, 6);
        fault("share 100;share 001;", 0, -1);
        fault("mutual 3;", 2, 7);
        fault("mutual 2;each 1;mutual 0;each 0;", 0, -1);
        fault("each 2;", 2, 5);
        fault("each;", 1, 4);
        words();
        tooMany();
        latestFault();
    }

    /** Each word of the language with another letter at its first and at its last place. */
    private static void words() {
        String start = "person a;person b;suit a b 5 needs 1;";
        String[][] lines = {{"", "person c"}, {"", "heir a b 1"}, {"", "ruler a b 1 2"}, {"", "suit a b 1"},
            {"", "judged 0 5 form"}, {"judged 0 5 form;", "reversed 0"}, {"", "share 1"}, {"", "mutual 1"}, {"", "each 1"},
            {"suit a b 1 ", "facts 1"}, {"suit a b 1 ", "needs 1"}, {"suit a b 1 ", "buts 1"}, {"judged 0 5 ", "merits"},
            {"judged 0 5 ", "form"}, {"judged 0 5 form ", "yes 1"}, {"judged 0 5 form ", "no 1"},
            {"judged 0 5 form yes 1 ", "untried 1"}};
        for (String[] line : lines) {
            String ahead = start + line[0];
            String word = line[1].split(" ")[0];
            String rest = line[1].substring(word.length()) + ";";
            fault(ahead + word + rest, 0, -1);
            fault(ahead + "z" + word.substring(1) + rest, 1, ahead.length());
            fault(ahead + word.substring(0, word.length() - 1) + "z" + rest, 1, ahead.length());
            fault(ahead + word + "z" + rest, 1, ahead.length());
            fault(ahead + word.substring(0, word.length() - 1) + rest, 1, ahead.length());
        }
        String[] values = {"suit", "plaintiff", "defendant", "filed", "day", "wins", "barred", "held", "open", "forced"};
        BarredSuits x = new BarredSuits();
        for (String word : values) {
            question(x, "many " + word + "=1", 0);
            wrongQuestion(x, "many z" + word.substring(1) + "=1", 1, 5);
            wrongQuestion(x, "many " + word.substring(0, word.length() - 1) + "=1", 1, 5);
            wrongQuestion(x, "many " + word + "z=1", 1, 5);
        }
        wrongQuestion(x, "zany 1=1", 1, 0);
        wrongQuestion(x, "zirst 1=1", 1, 0);
        wrongQuestion(x, "many 1=1 zr 1=1", 1, 9);
        wrongQuestion(x, "many 1=1 znd 1=1", 1, 9);
        wrongQuestion(x, "many zot 1=1", 1, 5);
    }

    private static void tooMany() {
        StringBuilder text = new StringBuilder();
        for (int i = 0; i < 12; i++) {
            text.append("person ").append((char) ('a' + i)).append(';');
        }
        fault(text + "person", 4, text.length());
        fault(text.toString(), 0, -1);
        StringBuilder links = new StringBuilder("person a;person b;");
        for (int i = 0; i < 24; i++) {
            links.append("heir a b 1;");
        }
        fault(links.toString(), 0, -1);
        fault(links + " ruler", 4, links.length() + 1);
        fault(links + "heir a a", 4, links.length());
        StringBuilder suits = new StringBuilder("person a;person b;");
        for (int i = 0; i < 10; i++) {
            suits.append("suit a b 1;");
        }
        fault(suits.toString(), 0, -1);
        fault(suits + "suit 7", 4, suits.length());
    }

    private static void latestFault() {
        BarredSuits x = new BarredSuits();
        Check.ask(x, "many");
        due("4 of ask", x.fault(), 4);
        Check.illegal("4 illegal", () -> x.desk(1));
        Check.illegal("4 illegal", () -> x.ask(201));
        due("4 not of an exception", x.fault(), 4);
        Check.desk(x, "");
        due("4 none any more", x.fault(), -1);
        Check.desk(x, " x");
        due("4 of desk", x.fault(), 1);
        x.image();
        x.back();
        due("4 whatever came since", x.fault(), 1);
        Check.ask(x, "many 1=1");
        due("4 none", x.fault(), -1);
    }

    private static void promise5Count() {
        BarredSuits x = Check.told(BASE + "judged 1 12 merits no 1;each 1;reversed 1;");
        int[] counts = {4, 2, 2, 2, 1, 50, 0, 1, 0, 0, 0};
        for (int what = 0; what <= 10; what++) {
            due("5 count " + what, x.count(what), counts[what]);
        }
        x.reverse(1);
        due("5 couples that clash", x.count(10), 1);
        due("5 acts", x.count(8), 1);
        Check.feedText(x, "x");
        due("5 tape", x.count(9), 20);
        for (int wrong : WRONG) {
            Check.noSuch("5 count", () -> x.count(wrong));
        }
        Check.noSuch("5 count 11", () -> x.count(11));
    }

    private static void promise6Letter() {
        BarredSuits x = Check.told("person abcxyz;person z;");
        int[] letters = {1, 2, 3, 24, 25, 26};
        for (int k = 0; k < 6; k++) {
            due("6 letter", x.letter(0, k), letters[k]);
            due("6 letter", x.letter(1, k), k == 0 ? 26 : 0);
        }
        Check.noSuch("6 letter 6", () -> x.letter(0, 6));
        Check.noSuch("6 letter -1", () -> x.letter(0, -1));
        for (int wrong : WRONG) {
            Check.noSuch("6 person", () -> x.letter(wrong, 0));
        }
        Check.noSuch("6 person 2", () -> x.letter(2, 0));
    }

    private static void promise7Link() {
        BarredSuits x = Check.told(BASE);
        int[][] links = {{0, 2, 0, 10, 9999}, {1, 3, 1, 0, 20}};
        for (int link = 0; link < 2; link++) {
            for (int what = 0; what < 5; what++) {
                due("7 link", x.link(link, what), links[link][what]);
            }
        }
        for (int wrong : WRONG) {
            Check.noSuch("7 link", () -> x.link(wrong, 0));
            Check.noSuch("7 what", () -> x.link(0, wrong));
        }
        Check.noSuch("7 link 2", () -> x.link(2, 0));
        Check.noSuch("7 what 5", () -> x.link(0, 5));
    }

    private static void promise8Suit() {
        BarredSuits x = Check.told(PERSONS + "suit b d 5 facts 0 30 needs 1 2 buts 3 30;"
                + "judged 0 8 merits yes 1 2 no 3 untried 2 3;suit a b 0;");
        int[] whole = {1, 3, 5, 1 | 1 << 30, 6, 8 | 1 << 30, 8, 1, 0, 6, 8, 12, 0, 14, 2};
        int[] bare = {0, 1, 0, 0, 0, 0, -1, 0, 0, 0, 0, 0, -1, 0, 0};
        for (int what = 0; what < 15; what++) {
            due("8 suit 0 " + what, x.suit(0, what), whole[what]);
            due("8 suit 1 " + what, x.suit(1, what), bare[what]);
        }
        x.reverse(0);
        due("8 reversed", x.suit(0, 8), 1);
        due("8 reversed wins", x.suit(0, 12), 0);
        due("8 reversed necessary", x.suit(0, 13), 14);
        due("8 reversed settled", x.suit(0, 14), 0);
        due("8 reversed day", x.suit(0, 6), 8);
        defendantWins();
        for (int wrong : WRONG) {
            Check.noSuch("8 suit", () -> x.suit(wrong, 0));
            Check.noSuch("8 what", () -> x.suit(0, wrong));
        }
        Check.noSuch("8 what 15", () -> x.suit(0, 15));
        Check.noSuch("8 suit 2", () -> x.suit(2, 0));
    }

    private static void defendantWins() {
        BarredSuits x = Check.told(PERSONS + "suit a b 5 needs 1 2 buts 3 4;judged 0 5 merits yes 1;"
                + "suit a b 5 needs 1;judged 1 5 form yes 1;suit a b 5;judged 2 5 merits;");
        due("8 not all needs", x.suit(0, 12), 1);
        due("8 no grounds", x.suit(0, 13), 0);
        x.find(0, 4, 0, true);
        x.find(0, 2, 0, true);
        due("8 one ground, no but", x.suit(0, 13), 4);
        x.find(0, 3, 1, false);
        due("8 two grounds", x.suit(0, 13), 0);
        x.rule(2, 1);
        due("8 each ground", x.suit(0, 13), 12);
        due("8 each that was tried", x.suit(0, 14), 4);
        x.find(0, 2, 1, true);
        due("8 a but alone", x.suit(0, 12) * 100 + x.suit(0, 13), 108);
        x.find(0, 3, 0, true);
        due("8 all found", x.suit(0, 12) * 100 + x.suit(0, 14), 30);
        due("8 form", x.suit(1, 12), -1);
        due("8 form", x.suit(1, 13) | x.suit(1, 14), 0);
        due("8 without needs", x.suit(2, 12), 0);
    }

    private static void promise9IsBound() {
        BarredSuits x = Check.told(PERSONS + "person e;person f;suit a b 5;judged 0 8 form;suit a b 5;"
                + "heir a c 8;heir b d 7;ruler c e 0 8;ruler c f 9 10;");
        String bound = "101010010000";
        for (int side = 0; side < 2; side++) {
            for (int person = 0; person < 6; person++) {
                Check.due("9 bound " + side + person, x.isBound(0, side, person), bound.charAt(side * 6 + person) == '1');
                Check.due("9 not judged", x.isBound(1, side, person), false);
            }
        }
        x.reverse(0);
        Check.due("9 reversed", x.isBound(0, 0, 4), true);
        x.tie(5, 0, 8, 8);
        Check.due("9 not against the link", x.isBound(0, 0, 5), false);
        x.tie(4, 1, 8, 8);
        Check.due("9 a party by a chain", x.isBound(0, 0, 1), true);
        for (int wrong : WRONG) {
            Check.noSuch("9 suit", () -> x.isBound(wrong, 0, 0) ? 1 : 0);
            Check.noSuch("9 side", () -> x.isBound(0, wrong, 0) ? 1 : 0);
            Check.noSuch("9 person", () -> x.isBound(0, 0, wrong) ? 1 : 0);
            Check.noSuch("9 of one that isn't judged", () -> x.isBound(1, wrong, 0) ? 1 : 0);
        }
        Check.noSuch("9 side 2", () -> x.isBound(0, 2, 0) ? 1 : 0);
    }

    private static void promise10Chain() {
        BarredSuits x = Check.told(PERSONS + "person e;suit a e 5;judged 0 5 merits;suit a e 5;"
                + "heir c d 9;heir b d 9;heir a c 9;heir a b 9;heir a b 5;heir d a 9;ruler d e 6 7;");
        due("10 two links", x.chain(0, 0, 3, -1), 2);
        due("10 the first by numbers", x.chain(0, 0, 3, 0), 2);
        due("10 then", x.chain(0, 0, 3, 1), 0);
        due("10 the first of two", x.chain(0, 0, 1, 0), 3);
        due("10 the party itself", x.chain(0, 0, 0, -1), 0);
        Check.noSuch("10 no link", () -> x.chain(0, 0, 0, 0));
        due("10 not bound", x.chain(0, 0, 4, -1), -1);
        due("10 not bound, any k", x.chain(0, 0, 4, 5), -1);
        due("10 not judged", x.chain(1, 0, 0, -1), -1);
        due("10 not judged, any k", x.chain(1, 0, 0, 0), -1);
        Check.noSuch("10 k", () -> x.chain(0, 0, 3, 2));
        Check.noSuch("10 k", () -> x.chain(0, 0, 3, -2));
        Check.noSuch("10 k", () -> x.chain(0, 0, 3, Integer.MAX_VALUE));
        Check.noSuch("10 k", () -> x.chain(0, 0, 3, Integer.MIN_VALUE));
        for (int wrong : WRONG) {
            Check.noSuch("10 suit", () -> x.chain(wrong, 0, 0, -1));
            Check.noSuch("10 side", () -> x.chain(1, wrong, 0, -1));
            Check.noSuch("10 person", () -> x.chain(0, 0, wrong, -1));
        }
        x.cut(2);
        due("10 the other way", x.chain(0, 0, 3, 0), 2);
        due("10 the other way", x.chain(0, 0, 3, 1), 1);
        x.reverse(0);
        due("10 reversed", x.chain(0, 0, 3, -1), 2);
        longChain();
    }

    private static void longChain() {
        StringBuilder text = new StringBuilder();
        for (int i = 0; i < 12; i++) {
            text.append("person ").append((char) ('a' + i)).append(';');
        }
        for (int i = 11; i > 0; i--) {
            text.append("heir ").append((char) ('a' + i - 1)).append(' ').append((char) ('a' + i)).append(" 9;");
        }
        BarredSuits x = Check.told(text + "suit a b 0;judged 0 0 form;");
        due("10 eleven links", x.chain(0, 0, 11, -1), 11);
        for (int k = 0; k < 11; k++) {
            due("10 link", x.chain(0, 0, 11, k), 10 - k);
        }
    }

    private static void promise11Two() {
        BarredSuits x = Check.told(BASE + "judged 1 13 merits yes 1 no 4;suit a b 8 facts 3 4 5 6;suit a b 7 facts 3;suit a b 9;");
        due("11 facts of both", x.two(0, 1, 0), 12);
        due("11 same: 2 of 2", x.two(0, 1, 1), 1);
        due("11 not same: 1 of 3", x.two(0, 2, 1), 0);
        due("11 same: 1 of 1", x.two(2, 3, 1), 1);
        due("11 none are not the same", x.two(4, 4, 1), 0);
        due("11 itself", x.two(0, 0, 1), 1);
        x.rule(0, 33);
        due("11 1 of 3 by 33", x.two(0, 2, 1), 1);
        x.rule(0, 34);
        due("11 1 of 3 by 34", x.two(0, 2, 1), 0);
        due("11 barred", x.two(1, 0, 2), 1);
        due("11 not the other way", x.two(0, 1, 2), 0);
        due("11 behind, on that day", x.two(2, 0, 3), 1);
        due("11 not behind, a day ahead", x.two(3, 0, 3), 0);
        due("11 not behind itself", x.two(0, 0, 3), 0);
        due("11 stands on", x.two(1, 0, 4), 1);
        due("11 not on itself", x.two(1, 1, 4), 0);
        due("11 no clash", x.two(0, 1, 5), -1);
        x.find(1, 1, 0, true);
        x.rule(2, 1);
        due("11 clash", x.two(0, 1, 5), 1);
        due("11 clash, either way", x.two(1, 0, 5), 1);
        due("11 found otherwise", x.two(1, 0, 4), 0);
        x.reverse(0);
        due("11 reversed", x.two(1, 0, 2) + x.two(1, 0, 3) + x.two(1, 0, 4) - x.two(0, 1, 5), 1);
        for (int wrong : WRONG) {
            Check.noSuch("11 suit", () -> x.two(wrong, 0, 0));
            Check.noSuch("11 suit", () -> x.two(0, wrong, 0));
            Check.noSuch("11 what", () -> x.two(0, 0, wrong));
        }
        Check.noSuch("11 what 6", () -> x.two(0, 0, 6));
        clashNeedsOnePerson();
    }

    private static void clashNeedsOnePerson() {
        BarredSuits x = Check.told(PERSONS + "suit a b 1 needs 7 5;judged 0 1 merits yes 5 7;"
                + "suit c d 1 needs 5 7;judged 1 1 merits no 5 7;each 1;");
        due("11 nobody in both", x.two(0, 1, 5), -1);
        x.tie(0, 2, 1, -1);
        due("11 the least issue", x.two(0, 1, 5), 5);
        due("11 couples", x.count(10), 1);
        x.find(0, 5, 1, false);
        due("11 the next, if it wasn't tried", x.two(0, 1, 5), 7);
    }

    private static void promise12Barred() {
        BarredSuits x = Check.told(PERSONS + "suit a b 1 facts 1 2;judged 0 3 merits;suit a b 3 facts 2;"
                + "suit b a 4 facts 1;suit a b 2 facts 1;suit a b 9 facts 1 2;judged 1 3 form;judged 2 5 merits;");
        due("12 barred", x.barred(1), 1);
        due("12 filed ahead", x.barred(3), 0);
        due("12 not by form, not by sides changed", x.barred(4), 1);
        due("12 the counterclaim is free", x.barred(2), 0);
        x.rule(1, 1);
        due("12 by 1 too", x.barred(2), 0);
        x.rule(1, 2);
        due("12 a late counterclaim", x.barred(2), 1);
        due("12 by both", x.barred(4), 5);
        x.reverse(0);
        due("12 reversed", x.barred(1), 0);
        for (int wrong : WRONG) {
            Check.noSuch("12 suit", () -> x.barred(wrong));
        }
    }

    private static final String HELD = PERSONS + "suit a b 1 needs 1 2 buts 3;judged 0 2 merits yes 1 2 no 3;";

    private static void promise13Held() {
        BarredSuits x = Check.told(HELD + "suit a b 1 needs 1;judged 1 2 merits no 1;suit a b 1 needs 1;judged 2 1 merits yes 1;"
                + "suit a b 2 needs 1 4 buts 2;suit a b 1 needs 1;");
        due("13 of one day the greatest number", x.held(3, 1, 0), 1);
        due("13 how", x.held(3, 1, 1), 0);
        due("13 how many", x.held(3, 1, 2), 3);
        due("13 a need there, a but here", x.held(3, 2, 0), 0);
        due("13 how it was found there", x.held(3, 2, 1), 1);
        due("13 open", x.held(3, 4, 0), -1);
        due("13 open, how", x.held(3, 4, 1), -1);
        due("13 open, how many", x.held(3, 4, 2), 0);
        due("13 only what it comes behind", x.held(4, 1, 0) * 10 + x.held(4, 1, 2), 21);
        x.reverse(1);
        due("13 the next", x.held(3, 1, 0), 0);
        due("13 the next, how", x.held(3, 1, 1), 1);
        x.find(0, 1, 1, false);
        due("13 not tried", x.held(3, 1, 0), 2);
        for (int wrong : WRONG) {
            Check.noSuch("13 suit", () -> x.held(wrong, 1, 0));
            Check.noSuch("13 issue", () -> x.held(3, wrong, 0));
            Check.noSuch("13 what", () -> x.held(3, 1, wrong));
        }
        Check.noSuch("13 issue 3", () -> x.held(3, 3, 0));
        Check.noSuch("13 issue 33", () -> x.held(3, 33, 0));
        Check.noSuch("13 what 3", () -> x.held(3, 1, 3));
        mutuality();
    }

    /** Suits of the two parties of suit 0 and of strangers, in all ways, by each rule. */
    private static void mutuality() {
        String win = PERSONS + "suit a b 1 needs 1 2 buts 3;judged 0 2 merits yes 1 2 no 3;";
        String later = " 2 needs 1 buts 2 3 4;";
        BarredSuits x = Check.told(win + "suit a b" + later + "suit b a" + later + "suit c b" + later + "suit a c" + later
                + "suit b c" + later + "suit c d" + later);
        // Need 1 yes and but 3 no are against the defendant, but 2 yes against the plaintiff.
        int[][] held = {
            {14, 14, 0, 0, 0, 0},
            {14, 14, 0, 4, 4, 0},
            {14, 14, 10, 4, 4, 0}};
        for (int mutual = 0; mutual < 3; mutual++) {
            x.rule(1, mutual);
            for (int suit = 1; suit <= 6; suit++) {
                due("13 mutual " + mutual + " suit " + suit, x.issues(suit, 0), held[mutual][suit - 1]);
            }
        }
        x.rule(1, 0);
        x.tie(1, 2, 2, -1);
        due("13 through others", x.issues(4, 0), 14);
        x.tie(0, 1, 2, -1);
        due("13 bound on both sides", x.issues(5, 0), 14);
    }

    private static void promise14Issues() {
        BarredSuits x = Check.told(BASE);
        due("14 held", x.issues(1, 0), 10);
        due("14 open", x.issues(1, 1), 16);
        due("14 none", x.issues(0, 0), 0);
        due("14 all open", x.issues(0, 1), 14);
        for (int wrong : WRONG) {
            Check.noSuch("14 suit", () -> x.issues(wrong, 0));
            Check.noSuch("14 what", () -> x.issues(0, wrong));
        }
        Check.noSuch("14 what 2", () -> x.issues(0, 2));
    }

    private static void promise15Forced() {
        BarredSuits x = Check.told(HELD + "suit a b 1 needs 4;judged 1 2 merits no 4;suit a b 2 needs 1 2;"
                + "suit a b 2 needs 1 5;suit a b 2 needs 5 buts 2;suit a b 2 needs 1 4;suit a b 1 needs 1;"
                + "suit a b 2 buts 3;suit a b 0;");
        int[] forced = {0, -1, 1, 1, -1, 0, 0};
        for (int suit = 2; suit < 9; suit++) {
            due("15 forced " + suit, x.forced(suit), forced[suit - 2]);
        }
        BarredSuits y = Check.told(BASE);
        due("15 by the bar", y.forced(1), 2);
        y.reverse(0);
        due("15 not any more", y.forced(1), -1);
        for (int wrong : WRONG) {
            Check.noSuch("15 suit", () -> x.forced(wrong));
        }
    }

    private static void promise16And17Say() {
        BarredSuits x = Check.told(PERSONS + "suit a b 1 needs 0 30 10 buts 9;judged 0 2 merits yes 0 10 30 no 9;"
                + "suit a b 2 needs 30 10 buts 0 9;suit a b 0 needs 1;");
        String due = "0y@0,9n@0,10y@0,30y@0!1";
        due("16 length", x.say(1), due.length());
        Check.due("16 said " + Check.saidText(x, due.length()), Check.saidText(x, due.length()).equals(due), true);
        due("17 behind", x.said(due.length()), -1);
        due("17 below", x.said(-1), -1);
        due("17 far", x.said(Integer.MAX_VALUE), -1);
        due("17 far below", x.said(Integer.MIN_VALUE), -1);
        x.reverse(0);
        Check.noSuch("16 suit", () -> x.say(3));
        Check.noSuch("16 suit", () -> x.say(-1));
        x.image();
        x.back();
        Check.desk(x, "person a;person b;suit a b 1;suit a b 1 needs 1;");
        Check.due("17 as it was then", Check.saidText(x, due.length()).equals(due), true);
        due("16 forced alone", x.say(0), 2);
        due("16 sign", x.said(0), '!');
        due("16 way", x.said(1), '0');
        due("16 nothing", x.say(1), 0);
        due("17 nothing", x.said(0), -1);
        longestSaid();
    }

    private static void longestSaid() {
        StringBuilder all = new StringBuilder();
        StringBuilder due = new StringBuilder();
        for (int i = 0; i < 31; i++) {
            all.append(' ').append(i);
            due.append(i == 0 ? "" : ",").append(i).append("y@0");
        }
        BarredSuits x = Check.told("person a;person b;suit a b 0 needs" + all + ";judged 0 0 merits yes" + all
                + ";suit a b 0 needs" + all + ";");
        due("16 all issues", x.say(1), due.length() + 2);
        Check.due("16 all issues", Check.saidText(x, due.length() + 2).equals(due + "!0"), true);
    }

    private static void promise18Latest() {
        BarredSuits x = Check.told(PERSONS + "heir a c 9;suit a b 1;judged 0 9 form;suit b a 1;judged 1 9 merits;"
                + "suit a b 1;judged 2 8 merits;suit d b 1;suit c b 1;judged 4 10 form;");
        due("18 of one day the greatest", x.latest(0), 1);
        due("18 by a day", x.latest(1), 4);
        due("18 none", x.latest(3), -1);
        x.reverse(4);
        due("18 by a chain", x.latest(2), 1);
        x.reverse(1);
        due("18 reversed", x.latest(0), 0);
        for (int wrong : WRONG) {
            Check.noSuch("18 person", () -> x.latest(wrong));
        }
        Check.noSuch("18 person 4", () -> x.latest(4));
    }

    private static void promise19Goes() {
        BarredSuits x = Check.told(PERSONS + "suit a b 1 facts 1 needs 1;judged 0 1 merits yes 1;"
                + "suit a b 2 facts 1 needs 1 2;judged 1 3 merits yes 1 2;"
                + "suit a b 4 facts 2 needs 2 3;judged 2 4 form yes 2;suit a b 4 facts 1 needs 2;suit c d 9 needs 1;");
        due("19 not barred any more", x.goes(0, 0), 2);
        due("19 of two bars one is left", x.goes(1, 0), 0);
        due("19 fewer held", x.goes(0, 1), 2);
        due("19 fewer held", x.goes(1, 1), 12);
        due("19 forced otherwise", x.goes(0, 2), 2);
        due("19 stands on", x.goes(0, 3), 2);
        due("19 again and again", x.goes(0, 4), 6);
        due("19 stands on", x.goes(1, 3), 4);
        due("19 form holds nothing", x.goes(2, 0) + x.goes(2, 1) + x.goes(2, 2) + x.goes(2, 3) + x.goes(2, 4), 0);
        due("19 not judged", x.goes(3, 4), 0);
        Check.due("19 nothing changed", x.reverse(0), true);
        due("19 reversed", x.goes(0, 0) + x.goes(0, 1) + x.goes(0, 2) + x.goes(0, 3) + x.goes(0, 4), 0);
        for (int wrong : WRONG) {
            Check.noSuch("19 suit", () -> x.goes(wrong, 0));
            Check.noSuch("19 what", () -> x.goes(3, wrong));
        }
        Check.noSuch("19 what 5", () -> x.goes(0, 5));
        BarredSuits y = Check.told("person a;person b;suit a b 5 needs 1;suit a b 5 needs 1;"
                + "judged 0 5 merits yes 1;judged 1 5 merits yes 1;");
        due("19 two that stand on one another", y.goes(0, 3) * 10 + y.goes(0, 4), 23);
    }

    private static void promise20Would() {
        BarredSuits x = Check.told(BASE);
        due("20 barred", x.would(27, 8, 12, 18, 8, 0), 1);
        due("20 held", x.would(27, 8, 12, 18, 8, 1), 10);
        due("20 forced", x.would(27, 8, 12, 18, 8, 2), 2);
        due("20 a day ahead", x.would(27, 7, 12, 18, 8, 0), 0);
        due("20 other facts", x.would(27, 8, 16, 18, 8, 2), -1);
        due("20 forced", x.would(27, 8, 0, 6, 8, 2), 0);
        due("20 all bits", x.would(1, 9999, Integer.MAX_VALUE, 0, Integer.MAX_VALUE, 1), 14);
        due("20 nothing is told", x.count(2), 2);
        int[] nobody = {-1, Integer.MIN_VALUE, 0, 13, 39, 4, 48, 5 * 12, 144, 1728, Integer.MAX_VALUE};
        for (int sides : nobody) {
            Check.noSuch("20 sides " + sides, () -> x.would(sides, -1, -1, -1, -1, 0));
        }
        Check.noSuch("20 what 3", () -> x.would(27, -1, 0, 1, 1, 3));
        Check.noSuch("20 what -1", () -> x.would(27, 8, 12, 18, 8, -1));
        Check.illegal("20 a need is a but", () -> x.would(27, 8, 12, 18, 2, 0));
        Check.illegal("20 facts", () -> x.would(27, 8, -1, 18, 8, 0));
        Check.illegal("20 needs", () -> x.would(27, 8, 12, Integer.MIN_VALUE, 8, 0));
        Check.illegal("20 buts", () -> x.would(27, 8, 12, 18, Integer.MIN_VALUE, 0));
        Check.illegal("20 day", () -> x.would(27, -1, 12, 18, 8, 0));
        Check.illegal("20 day", () -> x.would(27, 10000, 12, 18, 8, 0));
    }

    private static void promise21FreeTill() {
        BarredSuits x = Check.told(PERSONS + "suit a b 1 facts 1;judged 0 9 merits;suit a b 1 facts 1;judged 1 6 merits;"
                + "suit a b 3 facts 1;suit c d 3 facts 1;suit b a 3 facts 1;");
        due("21 ahead of the first", x.freeTill(2), 5);
        due("21 not by itself", x.freeTill(1), 8);
        due("21 not by itself", x.freeTill(0), 5);
        due("21 free", x.freeTill(3), 9999);
        due("21 free", x.freeTill(4), 9999);
        x.rule(1, 2);
        due("21 late counterclaim", x.freeTill(4), 5);
        x.reverse(1);
        due("21 reversed", x.freeTill(2), 8);
        BarredSuits y = Check.told("person a;person b;suit a b 0 facts 1;judged 0 0 merits;suit a b 0 facts 1;");
        due("21 on none", y.freeTill(1), -1);
        for (int wrong : WRONG) {
            Check.noSuch("21 suit", () -> x.freeTill(wrong));
        }
    }

    private static void promise22Against() {
        BarredSuits x = Check.told(BASE + "suit c d 1 needs 5;judged 2 1 merits no 5;");
        due("22 all who are bound", x.against(1), 15);
        due("22 of each judgment", x.against(5), 12);
        due("22 none", x.against(4), 0);
        x.find(0, 1, 1, false);
        due("22 not tried", x.against(1), 0);
        x.reverse(2);
        due("22 reversed", x.against(5), 0);
        due("22 the last issue", x.against(30), 0);
        for (int wrong : WRONG) {
            Check.noSuch("22 issue", () -> x.against(wrong));
        }
        Check.noSuch("22 issue 31", () -> x.against(31));
    }

    private static void promise23Judge() {
        BarredSuits x = Check.told(BASE);
        Check.illegal("23 ahead of the filing", () -> x.judge(1, 11, true) ? 1 : 0);
        Check.illegal("23 too late", () -> x.judge(1, 10000, true) ? 1 : 0);
        Check.illegal("23 of one that is judged", () -> x.judge(0, 4, true) ? 1 : 0);
        Check.due("23 is judged", x.judge(0, 9, true), false);
        due("23 nothing changed", x.suit(0, 6) * 10 + x.count(8), 80);
        Check.due("23 judged", x.judge(1, 12, true), true);
        due("23 nothing found", x.suit(1, 9) | x.suit(1, 10) | x.suit(1, 11), 0);
        due("23 day", x.suit(1, 6), 12);
        due("23 merits, wins", x.suit(1, 7) * 10 + x.suit(1, 12), 11);
        Check.due("23 binds", x.isBound(1, 0, 2), true);
        due("23 an act", x.count(8), 1);
        due("23 undone", x.undo(), 0);
        due("23 not judged", x.suit(1, 6), -1);
        Check.due("23 form, last day", x.judge(1, 9999, false), true);
        due("23 form", x.suit(1, 7), 0);
        for (int wrong : WRONG) {
            Check.noSuch("23 suit", () -> x.judge(wrong, -1, true) ? 1 : 0);
        }
    }

    private static void promise24Find() {
        BarredSuits x = Check.told(BASE);
        due("24 not judged", x.find(1, 1, 1, true), -1);
        due("24 no act", x.count(8), 0);
        Check.illegal("24 how, not judged", () -> x.find(1, 1, 2, true));
        Check.illegal("24 how", () -> x.find(0, 1, -2, true));
        Check.noSuch("24 issue ahead of how", () -> x.find(0, 4, 2, true));
        due("24 was yes", x.find(0, 1, 0, false), 1);
        due("24 sets", x.suit(0, 9) * 10000 + x.suit(0, 10) * 100 + x.suit(0, 11), 41002);
        due("24 was no", x.find(0, 1, -1, false), 0);
        due("24 sets", x.suit(0, 9) * 10000 + x.suit(0, 10) * 100 + x.suit(0, 11), 40800);
        due("24 was not", x.find(0, 1, 1, false), -1);
        due("24 sets", x.suit(0, 9) * 10000 + x.suit(0, 10) * 100 + x.suit(0, 11), 60802);
        due("24 the same again", x.find(0, 1, 1, true), 1);
        due("24 tried", x.suit(0, 11), 0);
        due("24 acts", x.count(8), 4);
        due("24 undo", x.undo(), 3);
        due("24 untried again", x.suit(0, 11), 2);
        due("24 undo", x.undo() + x.undo(), 3);
        due("24 sets", x.suit(0, 9) * 10000 + x.suit(0, 10) * 100 + x.suit(0, 11), 41002);
        x.reverse(0);
        due("24 of a reversed one", x.find(0, 1, 1, true), 0);
        for (int wrong : WRONG) {
            Check.noSuch("24 suit", () -> x.find(wrong, 1, 2, true));
            Check.noSuch("24 issue", () -> x.find(0, wrong, 1, true));
        }
        Check.noSuch("24 issue 33", () -> x.find(0, 33, 1, true));
    }

    private static void promise25Reverse() {
        BarredSuits x = Check.told(BASE);
        Check.due("25 not judged", x.reverse(1), false);
        due("25 no act", x.count(8), 0);
        Check.due("25 reversed", x.reverse(0), true);
        due("25 nothing barred, settled", x.barred(1) | x.issues(1, 0) | x.against(1), 0);
        Check.due("25 not any more", x.reverse(0), false);
        due("25 barred", x.barred(1), 1);
        due("25 acts", x.count(8), 2);
        due("25 undo", x.undo(), 1);
        due("25 reversed again", x.suit(0, 8), 1);
        due("25 undo", x.undo(), 0);
        due("25 as it was", x.suit(0, 8), 0);
        for (int wrong : WRONG) {
            Check.noSuch("25 suit", () -> x.reverse(wrong) ? 1 : 0);
        }
    }

    private static void promise26Tie() {
        BarredSuits x = Check.told(BASE);
        due("26 an heir's", x.tie(0, 1, 9999, -1), 2);
        due("26 a ruler's", x.tie(3, 0, 0, 0), 3);
        int[] ruler = {3, 0, 1, 0, 0};
        int[] heir = {0, 1, 0, 9999, 9999};
        for (int what = 0; what < 5; what++) {
            due("26 heir " + what, x.link(2, what), heir[what]);
            due("26 ruler " + what, x.link(3, what), ruler[what]);
        }
        Check.due("26 binds", x.isBound(0, 0, 1), true);
        Check.noSuch("26 both one", () -> x.tie(1, 1, -1, -1));
        Check.noSuch("26 nobody", () -> x.tie(4, 1, 1, -1));
        for (int wrong : WRONG) {
            Check.noSuch("26 p", () -> x.tie(wrong, 1, -1, -1));
            Check.noSuch("26 q", () -> x.tie(1, wrong, -1, -1));
        }
        int[][] days = {{-1, -1}, {10000, -1}, {5, 4}, {5, -2}, {5, 10000}, {10000, 10000}, {-2, -1}, {-3, -2},
            {5, Integer.MIN_VALUE}, {Integer.MIN_VALUE, 5}};
        for (int[] day : days) {
            Check.illegal("26 days " + day[0] + " " + day[1], () -> x.tie(0, 1, day[0], day[1]));
        }
        due("26 acts", x.count(8), 2);
        for (int i = 4; i < 24; i++) {
            due("26 another", x.tie(0, 1, i, -1), i);
        }
        due("26 there are 24", x.tie(0, 1, 5, -1), -1);
        due("26 24, 12 acts", x.count(1) * 100 + x.count(8), 2412);
        Check.illegal("26 days, with 24", () -> x.tie(0, 1, 5, 4));
        due("26 undo", x.undo(), 11);
        due("26 23", x.count(1), 23);
    }

    private static void promise27Cut() {
        BarredSuits x = Check.told(BASE + "heir c d 7;");
        due("27 left", x.cut(1), 2);
        due("27 number less by 1", x.link(1, 0) * 10 + x.link(1, 1), 23);
        Check.due("27 not bound", x.isBound(0, 1, 3), false);
        due("27 left", x.cut(1), 1);
        due("27 left", x.cut(0), 0);
        Check.noSuch("27 none", () -> x.cut(0));
        due("27 undo", x.undo() * 10 + x.undo(), 21);
        due("27 as it was", x.link(1, 0) * 10 + x.link(1, 1), 23);
        due("27 undo", x.undo(), 0);
        int[] ruler = {1, 3, 1, 0, 20};
        int[] heir = {2, 3, 0, 7, 9999};
        for (int what = 0; what < 5; what++) {
            due("27 ruler " + what, x.link(1, what), ruler[what]);
            due("27 heir " + what, x.link(2, what), heir[what]);
        }
        for (int wrong : WRONG) {
            Check.noSuch("27 link", () -> x.cut(wrong));
        }
        Check.noSuch("27 link 3", () -> x.cut(3));
    }

    private static void promise28Rule() {
        BarredSuits x = Check.told(BASE);
        int[][] bounds = {{1, 100, 50}, {0, 2, 0}, {0, 1, 0}};
        for (int what = 0; what < 3; what++) {
            int rule = what;
            int least = bounds[what][0];
            int most = bounds[what][1];
            Check.illegal("28 below", () -> x.rule(rule, least - 1));
            Check.illegal("28 above", () -> x.rule(rule, most + 1));
            due("28 what it was", x.rule(what, most), bounds[what][2]);
            due("28 what it is", x.count(5 + what), most);
            due("28 what it was then", x.rule(what, least), most);
            due("28 the same", x.rule(what, least), least);
        }
        due("28 acts", x.count(8), 9);
        x.undo();
        x.undo();
        due("28 undone", x.count(7), 1);
        for (int wrong : WRONG) {
            Check.noSuch("28 what", () -> x.rule(wrong, -5));
        }
        Check.noSuch("28 what 3", () -> x.rule(3, 1));
    }

    private static void promise29Undo() {
        BarredSuits x = Check.told(BASE);
        for (int i = 1; i <= 14; i++) {
            x.rule(0, i);
            due("29 acts", x.count(8), Math.min(i, 12));
        }
        for (int i = 11; i >= 0; i--) {
            due("29 undo", x.undo(), i);
            due("29 share", x.count(5), i + 2);
        }
        due("29 none can", x.undo(), -1);
        due("29 nothing changed", x.count(5), 2);
        due("29 anew", x.rule(0, 9) * 10 + x.count(8), 21);
        x.judge(1, 13, true);
        x.find(1, 1, 0, false);
        x.reverse(1);
        x.cut(0);
        x.tie(0, 1, 1, 1);
        due("29 acts", x.count(8), 6);
        due("29 all back", x.undo() + x.undo() + x.undo() + x.undo() + x.undo() + x.undo(), 15);
        int[] suit = {2, 3, 12, 12, 18, 8, -1, 0, 0, 0, 0, 0, -1, 0, 0};
        for (int what = 0; what < 15; what++) {
            due("29 suit " + what, x.suit(1, what), suit[what]);
        }
        due("29 links", x.count(1) * 100 + x.link(0, 0) * 10 + x.link(0, 1), 202);
        due("29 barred", x.barred(1), 1);
    }

    private static void question(BarredSuits x, String text, int want) {
        due("30 " + text, Check.ask(x, text), want);
        due("30 no fault of " + text, x.fault(), -1);
    }

    private static void wrongQuestion(BarredSuits x, String text, int which, int place) {
        due("30 " + text, Check.ask(x, text), -1000000000 - which);
        due("30 fault of " + text, x.fault(), place);
    }

    private static void promise30Ask() {
        BarredSuits x = Check.told(BASE + "suit a b 30;judged 2 31 merits;reversed 2;suit d a 40;judged 3 41 form;");
        question(x, "many suit=suit", 4);
        question(x, "first suit > 1", 2);
        question(x, "first suit > 3", -1);
        question(x, "many plaintiff = 0", 2);
        question(x, "first defendant=3", 1);
        question(x, "many filed<12", 1);
        question(x, "many filed>11 and filed<0031", 2);
        question(x, "first day<0", 1);
        question(x, "first day=31", 2);
        question(x, "many wins<0", 3);
        question(x, "many wins=0", 1);
        question(x, "first barred=1", 1);
        question(x, "first held=2", 1);
        question(x, "first open=3", 0);
        question(x, "first forced=2", 1);
        question(x, "many forced=0", 2);
        question(x, "many 1=1 or 1=2 and 1=2", 4);
        question(x, "many{1=1 or 1=2}and 1=2", 0);
        question(x, "many not 1=2 and 1=1", 4);
        question(x, "many not{1=2 or 1=1}", 0);
        question(x, "many\nnot not not not not not 1=1", 4);
        question(x, "many {{{{{{1=1}}}}}}", 4);
        question(x, "many {not{not{not suit=0}}}or{not 1=2}and not{suit<3}", 3);
        question(x, "many not{1=2}and not{not 1=1}and not{{{{not 1=2}}}}", 0);
        question(x, "many 0000000000009999=9999", 4);
        wrongQuestion(x, "", 1, 0);
        wrongQuestion(x, " ", 1, 1);
        wrongQuestion(x, "many", 1, 4);
        wrongQuestion(x, "much 1=1", 1, 0);
        wrongQuestion(x, "many 1", 1, 6);
        wrongQuestion(x, "many 1>=1", 1, 7);
        wrongQuestion(x, "many 1=", 1, 7);
        wrongQuestion(x, "many 1=1;", 1, 8);
        wrongQuestion(x, "many 1=1 1", 1, 9);
        wrongQuestion(x, "many 1=1}", 1, 8);
        wrongQuestion(x, "many {1=1", 1, 9);
        wrongQuestion(x, "many {1=1)", 1, 9);
        wrongQuestion(x, "many 1=1 and", 1, 12);
        wrongQuestion(x, "many not", 1, 8);
        wrongQuestion(x, "many suits=1", 1, 5);
        wrongQuestion(x, "many 1=-1", 1, 7);
        wrongQuestion(x, "many 10000=1", 2, 5);
        wrongQuestion(x, "many 1=99999999999999999999", 2, 7);
        wrongQuestion(x, "many {{{{{{{", 3, 11);
        wrongQuestion(x, "many {{{{{{not", 3, 11);
        wrongQuestion(x, "many not{not{not{not 1=1", 3, 17);
        wrongQuestion(x, "many not{not{1=1}}or not{not{not{{1=1", 3, 33);
        askTape(x);
    }

    private static void askTape(BarredSuits x) {
        StringBuilder longest = new StringBuilder("many 1=1");
        while (longest.length() < 200) {
            longest.append(' ');
        }
        due("30 of 200 bytes", Check.ask(x, longest.toString()), 4);
        Check.feedText(x, longest + " ");
        Check.illegal("30 above 200", () -> x.ask(201));
        Check.illegal("30 below 0", () -> x.ask(-1));
        Check.illegal("30 more than there are", () -> x.ask(Integer.MAX_VALUE));
        due("30 nothing changed", x.count(9), 220);
        due("30 the first bytes", x.ask(8), 4);
        due("30 empty", x.count(9), 0);
        Check.illegal("30 empty", () -> x.ask(1));
        Check.ask(x, "foo");
        due("30 empty with a fault", x.count(9), 0);
        due("30 without suits", Check.ask(new BarredSuits(), "first 1=1"), -1);
        due("30 without suits", Check.ask(new BarredSuits(), "many not 1=2"), 0);
    }

    private static void promise31And32ImageBack() {
        BarredSuits x = Check.told(BASE);
        x.rule(0, 70);
        x.image();
        due("31 acts stay", x.count(8), 1);
        x.judge(1, 13, true);
        x.find(0, 1, 0, false);
        x.reverse(0);
        x.cut(0);
        x.tie(3, 2, 1, -1);
        x.rule(1, 2);
        Check.feedText(x, "x");
        Check.due("32 back", x.back(), true);
        due("32 no acts, the tape stays", x.count(8) * 100 + x.count(9), 20);
        due("32 rules", x.count(5) * 10 + x.count(6), 700);
        due("32 judgments", x.count(3) * 10 + x.count(4), 10);
        due("32 found", x.suit(0, 9) * 100 + x.suit(0, 10), 608);
        due("32 links", x.count(1) * 100 + x.link(0, 0) * 10 + x.link(0, 1), 202);
        due("32 barred", x.barred(1), 1);
        due("32 no undo", x.undo(), -1);
        due("32 another text", x.desk(0), 0);
        x.rule(0, 1);
        Check.due("32 back again", x.back(), true);
        due("32 all again", x.count(0) * 1000 + x.count(1) * 100 + x.count(2) * 10 + x.barred(1), 4221);
        due("32 name", x.letter(3, 0), 4);
        x.desk(0);
        x.image();
        x.back();
        due("31 instead of what was", x.count(0), 0);
        Check.due("32 nothing kept", new BarredSuits().back(), false);
        BarredSuits y = Check.told(BASE);
        y.rule(0, 3);
        y.back();
        due("32 nothing kept, nothing changed", y.count(5) * 10 + y.count(8), 31);
    }

    public static void main(String[] args) {
        promise1New();
        promise2Feed();
        promise3Desk();
        promise4Fault();
        promise5Count();
        promise6Letter();
        promise7Link();
        promise8Suit();
        promise9IsBound();
        promise10Chain();
        promise11Two();
        promise12Barred();
        promise13Held();
        promise14Issues();
        promise15Forced();
        promise16And17Say();
        promise18Latest();
        promise19Goes();
        promise20Would();
        promise21FreeTill();
        promise22Against();
        promise23Judge();
        promise24Find();
        promise25Reverse();
        promise26Tie();
        promise27Cut();
        promise28Rule();
        promise29Undo();
        promise30Ask();
        promise31And32ImageBack();
        Check.finish("PromisesTest");
    }
}
