/** The sentences of the terms that tell what a question is, and what acts are: each with a test of its own. */
final class QuestionEdges {
    private static final String BASE = "person a;person b;person c;person d;heir a c 10;ruler b d 0 20;"
            + "suit a b 5 facts 1 2 3 needs 1 2 buts 3;judged 0 8 merits yes 1 2 no 3;suit c d 12 facts 2 3 needs 1 4 buts 3;"
            + "suit a b 30;judged 2 31 merits;reversed 2;suit d a 40;judged 3 41 form;suit a b 50 needs 9;judged 4 9999 merits;";

    private QuestionEdges() {
    }

    static void all() {
        shape();
        values();
        suitValues();
        faults();
        answers();
        acts();
    }

    private static void shape() {
        Edge.term(30, "A QUESTION is a TEXT of at most 200 bytes: ('many' | 'first') TEST.", () -> {
            BarredSuits x = Edge.told(BASE);
            String longest = "many suit <" + Edge.times(" ", 188) + "2";
            Edge.due("200 bytes, the last one a number", Check.ask(x, longest), 2);
            Check.feedText(x, longest + " ");
            Edge.illegal("ask(201)", () -> x.ask(201));
            Edge.due("ask(199): the last value is missing", x.ask(199), -1000000001);
            Edge.due("its end", x.fault(), 199);
            Edge.wrongQuestion(x, "", 1, 0);
            Edge.wrongQuestion(x, "  ", 1, 2);
            Edge.wrongQuestion(x, "1=1", 1, 0);
            Edge.wrongQuestion(x, "many first 1=1", 1, 5);
            Edge.wrongQuestion(x, "first", 1, 5);
            Edge.wrongQuestion(x, "many1=1;", 1, 7);
            Edge.question(x, "many1=1", 5);
        });
        Edge.term(30, "TEST: BOTH ('or' BOTH)*. BOTH: FACT ('and' FACT)*.", () -> {
            BarredSuits x = Edge.told(BASE);
            Edge.question(x, "many 1=1 or 1=2 and 1=2", 5);
            Edge.question(x, "many 1=2 and 1=2 or 1=1", 5);
            Edge.question(x, "many suit=0 or suit=1 or suit=2 or suit=4", 4);
            Edge.question(x, "first suit>0 and suit>1 and suit>2 and suit<9999", 3);
            Edge.question(x, "many 1=2" + Edge.times("or 1=2", 31) + "or1=1", 5);
            Edge.question(x, "many 1=1" + Edge.times("and1=1", 31) + "and1=2", 0);
            Edge.wrongQuestion(x, "many or 1=1", 1, 5);
            Edge.wrongQuestion(x, "many 1=1 or", 1, 11);
            Edge.wrongQuestion(x, "many 1=1 and or 1=1", 1, 13);
        });
        Edge.term(30, "FACT: 'not' FACT | '{' TEST '}' | VALUE ('<' | '=' | '>') VALUE.", () -> {
            BarredSuits x = Edge.told(BASE);
            Edge.question(x, "many not suit=0", 4);
            Edge.question(x, "many not suit=0 and suit=0", 0);
            Edge.question(x, "many not {suit=0 and suit=1}", 5);
            Edge.question(x, "many suit<1", 1);
            Edge.question(x, "many suit=1", 1);
            Edge.question(x, "many suit>1", 3);
            Edge.question(x, "many suit<0", 0);
            Edge.question(x, "many suit>4", 0);
            Edge.wrongQuestion(x, "many {}", 1, 6);
            Edge.wrongQuestion(x, "many {1=1", 1, 9);
            Edge.wrongQuestion(x, "many 1=1}", 1, 8);
            Edge.wrongQuestion(x, "many not", 1, 8);
            Edge.wrongQuestion(x, "many 1", 1, 6);
            Edge.wrongQuestion(x, "many 1 1", 1, 7);
            Edge.wrongQuestion(x, "many 1<=1", 1, 7);
            Edge.wrongQuestion(x, "many 1=1=1", 1, 8);
        });
    }

    private static void values() {
        Edge.term(30, "VALUE: NUMBER (0 to 9999) |", () -> {
            BarredSuits x = Edge.told(BASE);
            Edge.question(x, "many 0<9999", 5);
            Edge.question(x, "many 00009999=9999", 5);
            Edge.question(x, "many day=9999", 1);
            Edge.wrongQuestion(x, "many 10000=1", 2, 5);
            Edge.wrongQuestion(x, "many 1=10000", 2, 7);
            Edge.wrongQuestion(x, "many 4294967297=1", 2, 5);
            Edge.wrongQuestion(x, "many 1=" + Edge.times("9", 150), 2, 7);
            Edge.wrongQuestion(x, "many 1=-1", 1, 7);
        });
        Edge.term(30, "of a SUIT: 'suit' (its number), 'plaintiff', 'defendant', 'filed'", () -> {
            BarredSuits x = Edge.told(BASE);
            Edge.question(x, "first suit=4", 4);
            Edge.question(x, "many plaintiff=0", 3);
            Edge.question(x, "first plaintiff=3", 3);
            Edge.question(x, "many defendant=0", 1);
            Edge.question(x, "many defendant<plaintiff", 1);
            Edge.question(x, "first filed=12", 1);
            Edge.wrongQuestion(x, "many suits=0", 1, 5);
            Edge.wrongQuestion(x, "many person=0", 1, 5);
        });
        Edge.term(30, "'day' (of its JUDGMENT; -1)", () -> {
            BarredSuits x = Edge.told(BASE);
            Edge.question(x, "many day<0", 1);
            Edge.question(x, "first day<0", 1);
            Edge.question(x, "first day=31", 2);
            Edge.question(x, "many day>filed", 4);
        });
        Edge.term(30, "'wins' (0, 1; -1 without a JUDGMENT on the MERITS that counts)", () -> {
            BarredSuits x = Edge.told(BASE);
            Edge.question(x, "many wins<0", 3);
            Edge.question(x, "many wins=0", 1);
            Edge.question(x, "first wins=1", 4);
            x.reverse(2);
            Edge.question(x, "many wins=0", 2);
        });
    }

    private static void suitValues() {
        Edge.term(30, "'barred' (by how many), 'held', 'open' (how many ISSUES), 'forced'.", () -> {
            BarredSuits x = Edge.told("person a;person b;suit a b 1 facts 1 needs 1 2;judged 0 1 merits yes 1 2;"
                    + "suit a b 2 facts 1 needs 1;judged 1 2 merits yes 1;suit a b 3 facts 1 needs 1 2 3;suit a b 3 needs 1;suit a b 3 needs 9;suit a b 3 buts 2;");
            Edge.question(x, "first barred=2", 2);
            Edge.question(x, "many barred=1", 1);
            Edge.question(x, "many barred=0", 4);
            Edge.question(x, "first held=2", 2);
            Edge.question(x, "many held=1", 3);
            Edge.question(x, "first open=1", 2);
            Edge.question(x, "many open=0", 3);
            Edge.question(x, "first open=2", 0);
            Edge.question(x, "many forced=2", 2);
            Edge.question(x, "first forced=1", 5);
            Edge.question(x, "first forced=0", 3);
            Edge.question(x, "many forced<0", 2);
        });
    }

    private static void faults() {
        Edge.term(30, "FAULTS as in 1 (3: the 7th of 'not', '{' that are open at once, 'not' till its FACT ends).", () -> {
            BarredSuits x = Edge.told(BASE);
            Edge.question(x, "many " + Edge.times("not ", 6) + "1=1", 5);
            Edge.wrongQuestion(x, "many " + Edge.times("not ", 7) + "1=1", 3, 29);
            Edge.question(x, "many {{{{{{1=1}}}}}}", 5);
            Edge.wrongQuestion(x, "many {{{{{{{1=1}}}}}}}", 3, 11);
            Edge.wrongQuestion(x, "many {{{{{{not 1=1}}}}}}", 3, 11);
            Edge.wrongQuestion(x, "many not not not not not not{1=1}", 3, 28);
            Edge.question(x, "many not not not not not not 1=1 and not not not not not not 1=1", 5);
            Edge.question(x, "many {{{{{1=1}or{1=1}}and{{1=1}}}}}and{{{{{{1=1}}}}}}", 5);
            Edge.question(x, "many not{not{not{1=1}}}or not{not{not{1=2}}}", 5);
            Edge.wrongQuestion(x, "many not{not{not{1=1 and not 1=1}}}", 3, 25);
            Edge.wrongQuestion(x, "many {{{{{not 1=1 and{1=1 and not 1=2}}}}}}", 3, 30);
            Edge.wrongQuestion(x, "many {{{{{{{10000", 3, 11);
            Edge.wrongQuestion(x, "many {{{{{{10000=1", 2, 11);
        });
    }

    private static void answers() {
        Edge.term(30, "It is asked of all SUITS: for how many it holds; the first one (NONE).", () -> {
            BarredSuits x = Edge.told(BASE);
            Edge.question(x, "many 1=1", 5);
            Edge.question(x, "many 1=2", 0);
            Edge.question(x, "first 1=1", 0);
            Edge.question(x, "first 1=2", -1);
            Edge.question(x, "first suit=4", 4);
            BarredSuits none = new BarredSuits();
            Edge.question(none, "many 1=1", 0);
            Edge.question(none, "first not 1=2", -1);
            BarredSuits ten = Edge.told("person a;person b;" + Edge.times("suit a b 1;", 10));
            Edge.question(ten, "many not 1=2", 10);
            Edge.question(ten, "first suit>8", 9);
        });
    }

    private static void acts() {
        Edge.term(29, "ACTS: a JUDGMENT, a FINDING, a reversal, a LINK, a RULE told: the latest 12 can be UNDONE one by one, the latest first.", () -> {
            BarredSuits x = Edge.told("person a;person b;suit a b 1 needs 1;");
            String before = Edge.state(x);
            x.judge(0, 1, true);
            x.find(0, 1, 1, false);
            x.reverse(0);
            x.tie(0, 1, 1, 2);
            x.cut(0);
            x.rule(1, 2);
            Edge.due("six", x.count(8), 6);
            for (int left = 5; left >= 0; left--) {
                Edge.due("undo()", x.undo(), left);
            }
            Edge.alike("all as it was", Edge.state(x), before);
            for (int share = 1; share <= 13; share++) {
                x.rule(0, share);
            }
            Edge.due("twelve of thirteen", x.count(8), 12);
            for (int left = 11; left >= 0; left--) {
                Edge.due("undo()", x.undo(), left);
                Edge.due("SHARE", x.count(5), left + 1);
            }
            Edge.due("the first one stays", x.undo() * 100 + x.count(5), -99);
        });
    }
}
