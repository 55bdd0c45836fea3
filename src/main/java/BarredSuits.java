import java.util.Arrays;
import java.util.NoSuchElementException;

/** A desk that tells what may no longer be said, by the judgments that it knows. */
public final class BarredSuits {
    public static final int NONE = -1;

    private static final int TAPE_MOST = 600;
    private static final int QUESTION_MOST = 200;
    private static final int FEED_BYTES = 20;
    private static final int PERSONS_MOST = 12;
    private static final int NAME_MOST = 6;
    private static final int LINKS_MOST = 24;
    private static final int SUITS_MOST = 10;
    private static final int ISSUES_MOST = 31;
    private static final int ALL_ISSUES = Integer.MAX_VALUE;
    private static final int DAY_MOST = 9999;
    private static final int ACTS_MOST = 12;
    private static final int SPEECH_MOST = 256;
    private static final int OPEN_MOST = 6;

    private static final int SHARE = 0;
    private static final int MUTUAL = 1;
    private static final int EACH = 2;

    private static final int FAULT_PLACE = 1;
    private static final int FAULT_NUMBER = 2;
    private static final int FAULT_NAME = 3;
    private static final int FAULT_DEPTH = 3;
    private static final int FAULT_MANY = 4;
    private static final int DESK_FAULTS = -10;
    private static final int ASK_FAULTS = -1000000000;

    private final Tape tape;
    private final Records records;
    private final Records told;
    private final Records kept;
    private final TextReader reader;
    private final Bench bench;
    private final Asker asker;
    private final Acts acts;
    private final Speech speech;
    private final Suit supposed;
    private boolean hasImage;

    public BarredSuits() {
        tape = new Tape();
        records = new Records();
        told = new Records();
        kept = new Records();
        reader = new TextReader(tape, told);
        bench = new Bench(records);
        asker = new Asker(tape);
        acts = new Acts();
        speech = new Speech();
        supposed = new Suit(NONE);
        hasImage = false;
    }

    public int feed(int a, int b, int c, int d, int e) {
        if (tape.length > TAPE_MOST - FEED_BYTES) {
            return NONE;
        }
        tape.take(a);
        tape.take(b);
        tape.take(c);
        tape.take(d);
        tape.take(e);
        return tape.length;
    }

    public int desk(int n) throws IllegalArgumentException {
        if (n < 0 || n > tape.length) {
            throw new IllegalArgumentException("the tape has not so many bytes");
        }
        reader.read(n);
        if (tape.fault != 0) {
            return DESK_FAULTS - tape.fault;
        }
        startAnewFrom(told);
        return records.suitCount;
    }

    public int fault() {
        return tape.place;
    }

    public int count(int what) throws NoSuchElementException {
        switch (what) {
            case 0: return records.personCount;
            case 1: return records.linkCount;
            case 2: return records.suitCount;
            case 3: return records.judgedCount();
            case 4: return records.reversedCount();
            case 5: return records.rules[SHARE];
            case 6: return records.rules[MUTUAL];
            case 7: return records.rules[EACH];
            case 8: return acts.keptCount;
            case 9: return tape.length;
            case 10: return bench.clashCount();
            default: throw new NoSuchElementException("no such count");
        }
    }

    public int letter(int person, int k) throws NoSuchElementException {
        needPerson(person);
        if (k < 0 || k >= NAME_MOST) {
            throw new NoSuchElementException("no such letter");
        }
        return records.letters[person * NAME_MOST + k];
    }

    public int link(int link, int what) throws NoSuchElementException {
        needLink(link);
        Link wanted = records.links[link];
        switch (what) {
            case 0: return wanted.giver;
            case 1: return wanted.taker;
            case 2: return wanted.isRuler() ? 1 : 0;
            case 3: return wanted.from;
            case 4: return wanted.isRuler() ? wanted.to : DAY_MOST;
            default: throw new NoSuchElementException("no such thing of a link");
        }
    }

    public int suit(int suit, int what) throws NoSuchElementException {
        Suit wanted = suitAt(suit);
        switch (what) {
            case 0: return wanted.plaintiff;
            case 1: return wanted.defendant;
            case 2: return wanted.filed;
            case 3: return wanted.facts;
            case 4: return wanted.needs;
            case 5: return wanted.buts;
            case 6: return wanted.day;
            case 7: return wanted.merits ? 1 : 0;
            case 8: return wanted.reversed ? 1 : 0;
            case 9: return wanted.yes;
            case 10: return wanted.no;
            case 11: return wanted.untried;
            case 12: return wanted.winner();
            case 13: return wanted.necessaryIssues(records.rules[EACH]);
            case 14: return wanted.settledYes | wanted.settledNo;
            default: throw new NoSuchElementException("no such thing of a suit");
        }
    }

    public boolean isBound(int suit, int side, int person) throws NoSuchElementException {
        Suit wanted = suitAt(suit);
        needPerson(person);
        needSide(side);
        return (wanted.boundOn(side) >> person & 1) == 1;
    }

    public int chain(int suit, int side, int person, int k) throws NoSuchElementException {
        Suit wanted = suitAt(suit);
        needPerson(person);
        needSide(side);
        if ((wanted.boundOn(side) >> person & 1) == 0) {
            return NONE;
        }
        int length = bench.traceChain(wanted, side, person);
        if (k == NONE) {
            return length;
        }
        if (k < 0 || k >= length) {
            throw new NoSuchElementException("no such link of the chain");
        }
        return bench.chainLink(length, k);
    }

    public int two(int first, int second, int what) throws NoSuchElementException {
        Suit one = suitAt(first);
        Suit other = suitAt(second);
        switch (what) {
            case 0: return one.facts & other.facts;
            case 1: return bench.areSame(one, other) ? 1 : 0;
            case 2: return bench.barringSuits(one) >> second & 1;
            case 3: return bench.comesBehind(one, other) ? 1 : 0;
            case 4: return bench.restsOn(one) >> second & 1;
            case 5: return lowestBit(bench.clashingIssues(one, other));
            default: throw new NoSuchElementException("no such thing of two suits");
        }
    }

    public int barred(int suit) throws NoSuchElementException {
        return bench.barringSuits(suitAt(suit));
    }

    public int held(int suit, int issue, int what) throws NoSuchElementException {
        Suit wanted = suitAt(suit);
        needIssue(wanted, issue);
        if (what < 0 || what > 2) {
            throw new NoSuchElementException("no such thing of an issue");
        }
        if (what == 2) {
            return bench.holderCount(wanted, issue);
        }
        bench.weigh(wanted);
        int holder = bench.holders[issue];
        if (what == 0 || holder == NONE) {
            return holder;
        }
        return bench.heldYes >> issue & 1;
    }

    public int issues(int suit, int what) throws NoSuchElementException {
        Suit wanted = suitAt(suit);
        if (what < 0 || what > 1) {
            throw new NoSuchElementException("no such issues");
        }
        int held = bench.heldIssues(wanted);
        return what == 0 ? held : wanted.allIssues() & ~held;
    }

    public int forced(int suit) throws NoSuchElementException {
        return bench.forcedWay(suitAt(suit));
    }

    public int say(int suit) throws NoSuchElementException {
        Suit wanted = suitAt(suit);
        int way = bench.forcedWay(wanted);
        bench.weigh(wanted);
        speech.length = 0;
        for (int issue = 0; issue < ISSUES_MOST; issue++) {
            int holder = bench.holders[issue];
            if (holder != NONE) {
                speech.addHeld(issue, (bench.heldYes >> issue & 1) == 1, holder);
            }
        }
        if (way != NONE) {
            speech.addSign('!');
            speech.addNumber(way);
        }
        return speech.length;
    }

    public int said(int i) {
        return i < 0 || i >= speech.length ? NONE : speech.bytes[i];
    }

    public int latest(int person) throws NoSuchElementException {
        needPerson(person);
        return bench.latestBinding(person);
    }

    public int goes(int suit, int what) throws NoSuchElementException {
        Suit wanted = suitAt(suit);
        if (what < 0 || what > 4) {
            throw new NoSuchElementException("no such thing that goes");
        }
        if (!wanted.counts()) {
            return 0;
        }
        if (what == 3) {
            return bench.restingOn(1 << suit);
        }
        return what == 4 ? bench.restingInTheEnd(suit) : bench.changedWithout(wanted, what);
    }

    public int would(int sides, int day, int facts, int needs, int buts, int what)
            throws NoSuchElementException, IllegalArgumentException {
        if (sides < 0 || what < 0 || what > 2) {
            throw new NoSuchElementException("no such persons, or no such answer");
        }
        supposed.plaintiff = sides / PERSONS_MOST;
        supposed.defendant = sides % PERSONS_MOST;
        needCouple(supposed.plaintiff, supposed.defendant);
        if ((needs & buts) != 0 || facts < 0 || needs < 0 || buts < 0 || !isDay(day)) {
            throw new IllegalArgumentException("sets or day out of bounds");
        }
        supposed.filed = day;
        supposed.facts = facts;
        supposed.needs = needs;
        supposed.buts = buts;
        if (what == 0) {
            return bench.barringSuits(supposed);
        }
        return what == 1 ? bench.heldIssues(supposed) : bench.forcedWay(supposed);
    }

    public int freeTill(int suit) throws NoSuchElementException {
        return bench.lastFreeDay(suitAt(suit));
    }

    public int against(int issue) throws NoSuchElementException {
        if (issue < 0 || issue >= ISSUES_MOST) {
            throw new NoSuchElementException("no such issue");
        }
        return bench.boundOverIssue(issue);
    }

    public boolean judge(int suit, int day, boolean merits)
            throws NoSuchElementException, IllegalArgumentException {
        Suit wanted = suitAt(suit);
        if (day < wanted.filed || day > DAY_MOST) {
            throw new IllegalArgumentException("a judgment's day is that of the filing or later");
        }
        if (wanted.isJudged()) {
            return false;
        }
        acts.note(Acts.JUDGMENT, suit, 0, 0, 0, 0);
        wanted.decide(day, merits);
        bench.refresh();
        return true;
    }

    public int find(int suit, int issue, int how, boolean tried)
            throws NoSuchElementException, IllegalArgumentException {
        Suit wanted = suitAt(suit);
        needIssue(wanted, issue);
        if (how < NONE || how > 1) {
            throw new IllegalArgumentException("an issue is found yes, no, or not");
        }
        if (!wanted.isJudged()) {
            return NONE;
        }
        int before = wanted.foundWay(issue);
        acts.note(Acts.FINDING, suit, wanted.yes, wanted.no, wanted.untried, 0);
        wanted.setFound(issue, how, tried);
        bench.refresh();
        return before;
    }

    public boolean reverse(int suit) throws NoSuchElementException {
        Suit wanted = suitAt(suit);
        if (!wanted.isJudged()) {
            return false;
        }
        acts.note(Acts.REVERSAL, suit, 0, 0, 0, 0);
        wanted.reversed = !wanted.reversed;
        bench.refresh();
        return wanted.reversed;
    }

    public int tie(int p, int q, int from, int to)
            throws NoSuchElementException, IllegalArgumentException {
        needCouple(p, q);
        boolean endStands = to == NONE || to >= from && isDay(to);
        if (!isDay(from) || !endStands) {
            throw new IllegalArgumentException("no such days");
        }
        if (records.linkCount >= LINKS_MOST) {
            return NONE;
        }
        int number = records.linkCount;
        acts.note(Acts.TYING, number, 0, 0, 0, 0);
        records.insertLink(number, p, q, from, to);
        bench.refresh();
        return number;
    }

    public int cut(int link) throws NoSuchElementException {
        needLink(link);
        Link gone = records.links[link];
        acts.note(Acts.CUTTING, link, gone.giver, gone.taker, gone.from, gone.to);
        records.removeLink(link);
        bench.refresh();
        return records.linkCount;
    }

    public int rule(int what, int v) throws NoSuchElementException, IllegalArgumentException {
        if (what < SHARE || what > EACH) {
            throw new NoSuchElementException("no such rule");
        }
        if (v < Records.leastOfRule(what) || v > Records.mostOfRule(what)) {
            throw new IllegalArgumentException("the rule can't be so");
        }
        int before = records.rules[what];
        acts.note(Acts.RULING, what, before, 0, 0, 0);
        records.rules[what] = v;
        bench.refresh();
        return before;
    }

    public int undo() {
        if (acts.keptCount == 0) {
            return NONE;
        }
        acts.takeBack(records);
        bench.refresh();
        return acts.keptCount;
    }

    public int ask(int n) throws IllegalArgumentException {
        if (n < 0 || n > QUESTION_MOST || n > tape.length) {
            throw new IllegalArgumentException("no question of so many bytes");
        }
        bench.tabulate(asker.values);
        return asker.answer(n, records.suitCount);
    }

    public void image() {
        kept.become(records);
        hasImage = true;
    }

    public boolean back() {
        if (!hasImage) {
            return false;
        }
        startAnewFrom(kept);
        return true;
    }

    private void startAnewFrom(Records other) {
        records.become(other);
        acts.keptCount = 0;
        bench.refresh();
    }

    private Suit suitAt(int suit) {
        if (suit < 0 || suit >= records.suitCount) {
            throw new NoSuchElementException("no such suit");
        }
        return records.suits[suit];
    }

    private void needPerson(int person) {
        if (person < 0 || person >= records.personCount) {
            throw new NoSuchElementException("no such person");
        }
    }

    private void needCouple(int one, int other) {
        needPerson(one);
        needPerson(other);
        if (one == other) {
            throw new NoSuchElementException("both persons are one");
        }
    }

    private void needSide(int side) {
        if (side < 0 || side > 1) {
            throw new NoSuchElementException("no such side");
        }
    }

    private void needLink(int link) {
        if (link < 0 || link >= records.linkCount) {
            throw new NoSuchElementException("no such link");
        }
    }

    private void needIssue(Suit wanted, int issue) {
        if (issue < 0 || issue >= ISSUES_MOST || (wanted.allIssues() >> issue & 1) == 0) {
            throw new NoSuchElementException("the suit has not that issue");
        }
    }

    private static boolean isDay(int day) {
        return day >= 0 && day <= DAY_MOST;
    }

    private static int lowestBit(int bits) {
        for (int i = 0; i < ISSUES_MOST; i++) {
            if ((bits >> i & 1) == 1) {
                return i;
            }
        }
        return NONE;
    }

    /** The bytes that were fed, the token of them that is looked at, and the latest fault. */
    private static final class Tape {
        static final int AT_END = 0;
        static final int BLANK = 1;
        static final int WORD = 2;
        static final int NUMBER = 3;
        static final int SIGN = 4;

        final byte[] bytes = new byte[TAPE_MOST];
        int length;
        int limit;
        int kind;
        int start;
        int end;
        int value;
        int fault;
        int place = NONE;

        void take(int number) {
            for (int shift = 24; shift >= 0 && length < TAPE_MOST; shift -= 8) {
                bytes[length] = (byte) (number >> shift);
                length++;
            }
        }

        /** The text is read where it stands: the tape is empty from here on. */
        void open(int n) {
            limit = Math.min(n, TAPE_MOST);
            length = 0;
            end = 0;
            fault = 0;
            place = NONE;
            advance();
        }

        /** The first fault stays, and the reading stands still at it. */
        void fail(int which) {
            if (fault == 0) {
                fault = which;
                place = start;
            }
        }

        void advance() {
            if (fault != 0) {
                return;
            }
            start = end;
            while (start < limit && kindOf(bytes[start]) == BLANK) {
                start++;
            }
            end = start;
            kind = start < limit ? kindOf(bytes[start]) : AT_END;
            if (kind == SIGN) {
                end++;
            } else if (kind != AT_END) {
                passRow();
            }
        }

        /** Stops adding once a number is beyond all bounds, so that it can't run over. */
        private void passRow() {
            value = 0;
            while (end < limit && kindOf(bytes[end]) == kind) {
                if (kind == NUMBER && value <= DAY_MOST) {
                    value = value * 10 + bytes[end] - '0';
                }
                end++;
            }
        }

        private static int kindOf(byte b) {
            if (b == ' ' || b == '\n') {
                return BLANK;
            }
            if (b >= 'a' && b <= 'z') {
                return WORD;
            }
            return b >= '0' && b <= '9' ? NUMBER : SIGN;
        }

        boolean isWord(String word) {
            if (kind != WORD || end - start != word.length()) {
                return false;
            }
            for (int i = 0; i < word.length(); i++) {
                if (bytes[start + i] != word.charAt(i)) {
                    return false;
                }
            }
            return true;
        }

        boolean isSign(char sign) {
            return kind == SIGN && bytes[start] == sign;
        }

        boolean isName() {
            return kind == WORD && end - start <= NAME_MOST && !isWord("person");
        }

        /** Letter k of the word as 1 to 26, 0 behind it. */
        int letterOf(int k) {
            return kind == WORD && k >= 0 && k < end - start ? bytes[start + k] - 'a' + 1 : 0;
        }

        void passSign(char sign) {
            if (!isSign(sign)) {
                fail(FAULT_PLACE);
            }
            advance();
        }
    }

    /** A link from one person to another; one without a second day is an heir's. */
    private static final class Link {
        int giver;
        int taker;
        int from;
        int to;

        void become(Link other) {
            giver = other.giver;
            taker = other.taker;
            from = other.from;
            to = other.to;
        }

        boolean isRuler() {
            return to != NONE;
        }

        boolean carries(int day) {
            return isRuler() ? from <= day && day <= to : from >= day;
        }
    }

    private static final class Suit {
        final int number;
        int plaintiff;
        int defendant;
        int filed;
        int facts;
        int needs;
        int buts;
        int day;
        boolean merits;
        boolean reversed;
        int yes;
        int no;
        int untried;
        // What follows from the rest, by Bench.refresh().
        int boundLeft;
        int boundRight;
        int settledYes;
        int settledNo;

        Suit(int number) {
            this.number = number;
            day = NONE;
        }

        void become(Suit other) {
            plaintiff = other.plaintiff;
            defendant = other.defendant;
            filed = other.filed;
            facts = other.facts;
            needs = other.needs;
            buts = other.buts;
            day = other.day;
            merits = other.merits;
            reversed = other.reversed;
            yes = other.yes;
            no = other.no;
            untried = other.untried;
        }

        /** Also takes a judgment away, if the day is NONE. */
        void decide(int onDay, boolean onMerits) {
            day = onDay;
            merits = onMerits;
            reversed = false;
            yes = 0;
            no = 0;
            untried = 0;
        }

        boolean isJudged() {
            return day != NONE;
        }

        boolean counts() {
            return day != NONE && !reversed;
        }

        int allIssues() {
            return needs | buts;
        }

        int party(int side) {
            return side == 0 ? plaintiff : defendant;
        }

        int boundOn(int side) {
            return side == 0 ? boundLeft : boundRight;
        }

        int boundAtAll() {
            return boundLeft | boundRight;
        }

        int foundWay(int issue) {
            if ((yes >> issue & 1) == 1) {
                return 1;
            }
            return (no >> issue & 1) == 1 ? 0 : NONE;
        }

        void setFound(int issue, int how, boolean tried) {
            int bit = 1 << issue;
            yes = how == 1 ? yes | bit : yes & ~bit;
            no = how == 0 ? no | bit : no & ~bit;
            untried = how != NONE && !tried ? untried | bit : untried & ~bit;
        }

        /** Who wins by a judgment on the merits, reversed or not. */
        int winner() {
            if (!isJudged() || !merits) {
                return NONE;
            }
            return (needs & ~yes) == 0 && (buts & yes) == 0 ? 0 : 1;
        }

        int necessaryIssues(int each) {
            int wins = winner();
            if (wins == NONE) {
                return 0;
            }
            if (wins == 0) {
                return needs | buts & no;
            }
            int grounds = needs & no | buts & yes;
            return each == 1 || Integer.bitCount(grounds) == 1 ? grounds : 0;
        }

        int settledIssues(int each) {
            return reversed ? 0 : necessaryIssues(each) & ~untried;
        }
    }

    /** All that a text tells. */
    private static final class Records {
        final int[] letters = new int[PERSONS_MOST * NAME_MOST];
        final Link[] links = new Link[LINKS_MOST];
        final Suit[] suits = new Suit[SUITS_MOST];
        final int[] rules = new int[3];
        int personCount;
        int linkCount;
        int suitCount;

        Records() {
            clear();
            for (int i = 0; i < LINKS_MOST; i++) {
                links[i] = new Link();
            }
            for (int i = 0; i < SUITS_MOST; i++) {
                suits[i] = new Suit(i);
            }
        }

        void clear() {
            personCount = 0;
            linkCount = 0;
            suitCount = 0;
            rules[SHARE] = 50;
            rules[MUTUAL] = 0;
            rules[EACH] = 0;
        }

        void become(Records other) {
            personCount = other.personCount;
            linkCount = other.linkCount;
            suitCount = other.suitCount;
            System.arraycopy(other.letters, 0, letters, 0, letters.length);
            System.arraycopy(other.rules, 0, rules, 0, rules.length);
            for (int i = 0; i < linkCount && i < LINKS_MOST; i++) {
                links[i].become(other.links[i]);
            }
            for (int i = 0; i < suitCount && i < SUITS_MOST; i++) {
                suits[i].become(other.suits[i]);
            }
        }

        int judgedCount() {
            int count = 0;
            for (int i = 0; i < suitCount; i++) {
                count += suits[i].isJudged() ? 1 : 0;
            }
            return count;
        }

        int reversedCount() {
            int count = 0;
            for (int i = 0; i < suitCount; i++) {
                count += suits[i].reversed ? 1 : 0;
            }
            return count;
        }

        /** The rows of links are kept and moved, not made anew. */
        void insertLink(int place, int giver, int taker, int from, int to) {
            if (linkCount >= LINKS_MOST || place < 0 || place > linkCount) {
                return;
            }
            Link fresh = links[linkCount];
            for (int i = linkCount; i > place; i--) {
                links[i] = links[i - 1];
            }
            fresh.giver = giver;
            fresh.taker = taker;
            fresh.from = from;
            fresh.to = to;
            links[place] = fresh;
            linkCount++;
        }

        void removeLink(int place) {
            if (place < 0 || place >= linkCount) {
                return;
            }
            Link gone = links[place];
            for (int i = place; i < linkCount - 1; i++) {
                links[i] = links[i + 1];
            }
            linkCount--;
            links[linkCount] = gone;
        }

        static int leastOfRule(int rule) {
            return rule == SHARE ? 1 : 0;
        }

        static int mostOfRule(int rule) {
            if (rule == SHARE) {
                return 100;
            }
            return rule == MUTUAL ? 2 : 1;
        }
    }

    /** Reads a text from the tape into records of its own; stops at the first fault. */
    private static final class TextReader {
        final Tape tape;
        final Records told;

        TextReader(Tape tape, Records told) {
            this.tape = tape;
            this.told = told;
        }

        void read(int n) {
            told.clear();
            tape.open(n);
            for (int left = TAPE_MOST; left > 0 && tape.fault == 0 && tape.kind != Tape.AT_END; left--) {
                readLine();
                tape.passSign(';');
            }
        }

        private void readLine() {
            if (tape.isWord("person")) {
                readPerson();
            } else if (tape.isWord("heir")) {
                readLink(false);
            } else if (tape.isWord("ruler")) {
                readLink(true);
            } else if (tape.isWord("suit")) {
                readSuit();
            } else if (tape.isWord("judged")) {
                readJudged();
            } else if (tape.isWord("reversed")) {
                readReversed();
            } else if (tape.isWord("share")) {
                readRule(SHARE);
            } else if (tape.isWord("mutual")) {
                readRule(MUTUAL);
            } else if (tape.isWord("each")) {
                readRule(EACH);
            } else {
                tape.fail(FAULT_PLACE);
            }
        }

        private void readPerson() {
            if (told.personCount >= PERSONS_MOST) {
                tape.fail(FAULT_MANY);
                return;
            }
            tape.advance();
            if (!tape.isName()) {
                tape.fail(FAULT_PLACE);
                return;
            }
            if (personNamed() != NONE) {
                tape.fail(FAULT_NAME);
                return;
            }
            for (int k = 0; k < NAME_MOST; k++) {
                told.letters[told.personCount * NAME_MOST + k] = tape.letterOf(k);
            }
            told.personCount++;
            tape.advance();
        }

        private void readLink(boolean ruler) {
            if (told.linkCount >= LINKS_MOST) {
                tape.fail(FAULT_MANY);
                return;
            }
            tape.advance();
            int giver = passName(NONE);
            int taker = passName(giver);
            int from = passNumber(0, DAY_MOST);
            int to = ruler ? passNumber(from, DAY_MOST) : NONE;
            if (tape.fault == 0) {
                told.insertLink(told.linkCount, giver, taker, from, to);
            }
        }

        private void readSuit() {
            if (told.suitCount >= SUITS_MOST) {
                tape.fail(FAULT_MANY);
                return;
            }
            tape.advance();
            Suit fresh = told.suits[told.suitCount];
            fresh.decide(NONE, false);
            fresh.plaintiff = passName(NONE);
            fresh.defendant = passName(fresh.plaintiff);
            fresh.filed = passNumber(0, DAY_MOST);
            fresh.facts = passSet("facts", ALL_ISSUES);
            fresh.needs = passSet("needs", ALL_ISSUES);
            fresh.buts = passSet("buts", ALL_ISSUES & ~fresh.needs);
            if (tape.fault == 0) {
                told.suitCount++;
            }
        }

        private void readJudged() {
            tape.advance();
            Suit judged = passSuit(false);
            if (judged == null) {
                return;
            }
            int day = passNumber(judged.filed, DAY_MOST);
            boolean merits = tape.isWord("merits");
            if (!merits && !tape.isWord("form")) {
                tape.fail(FAULT_PLACE);
            }
            if (tape.fault != 0) {
                return;
            }
            judged.decide(day, merits);
            tape.advance();
            judged.yes = passSet("yes", judged.allIssues());
            judged.no = passSet("no", judged.allIssues() & ~judged.yes);
            judged.untried = passSet("untried", judged.yes | judged.no);
        }

        private void readReversed() {
            tape.advance();
            Suit judged = passSuit(true);
            if (judged != null) {
                judged.reversed = true;
            }
        }

        private void readRule(int rule) {
            tape.advance();
            int v = passNumber(Records.leastOfRule(rule), Records.mostOfRule(rule));
            if (tape.fault == 0) {
                told.rules[rule] = v;
            }
        }

        /** A name that is told, of another person than the one that stands ahead. */
        private int passName(int unlike) {
            if (tape.fault == 0 && !tape.isName()) {
                tape.fail(FAULT_PLACE);
            }
            if (tape.fault != 0) {
                return NONE;
            }
            int person = personNamed();
            if (person == NONE || person == unlike) {
                tape.fail(FAULT_NAME);
                return NONE;
            }
            tape.advance();
            return person;
        }

        private int passNumber(int least, int most) {
            if (tape.fault == 0 && tape.kind != Tape.NUMBER) {
                tape.fail(FAULT_PLACE);
            }
            if (tape.fault == 0 && (tape.value < least || tape.value > most)) {
                tape.fail(FAULT_NUMBER);
            }
            if (tape.fault != 0) {
                return NONE;
            }
            int number = tape.value;
            tape.advance();
            return number;
        }

        /** A suit that isn't judged, or one whose judgment counts; null with a fault. */
        private Suit passSuit(boolean judgedOne) {
            if (tape.fault == 0 && tape.kind == Tape.NUMBER && tape.value < told.suitCount) {
                Suit named = told.suits[tape.value];
                boolean stands = judgedOne ? named.counts() : !named.isJudged();
                if (stands) {
                    tape.advance();
                    return named;
                }
            }
            tape.fail(tape.kind == Tape.NUMBER ? FAULT_NUMBER : FAULT_PLACE);
            return null;
        }

        /** The set behind a word; empty, if that word doesn't stand here. */
        private int passSet(String word, int allowed) {
            if (tape.fault != 0 || !tape.isWord(word)) {
                return 0;
            }
            tape.advance();
            int set = 0;
            for (int left = TAPE_MOST; left > 0 && tape.kind == Tape.NUMBER; left--) {
                int number = tape.value;
                if (number >= ISSUES_MOST || ((allowed & ~set) >> number & 1) == 0) {
                    tape.fail(FAULT_NUMBER);
                    return 0;
                }
                set |= 1 << number;
                tape.advance();
            }
            return set;
        }

        private int personNamed() {
            for (int person = 0; person < told.personCount; person++) {
                boolean same = true;
                for (int k = 0; k < NAME_MOST && same; k++) {
                    same = told.letters[person * NAME_MOST + k] == tape.letterOf(k);
                }
                if (same) {
                    return person;
                }
            }
            return NONE;
        }
    }

    /** What follows from the records: who is bound, what is barred, held, forced. */
    private static final class Bench {
        final Records records;
        final int[] holders = new int[ISSUES_MOST];
        final int[] rests = new int[SUITS_MOST];
        final int[] queue = new int[PERSONS_MOST];
        final int[] via = new int[PERSONS_MOST];
        final int[] backward = new int[PERSONS_MOST];
        int heldYes;
        int heldNo;

        Bench(Records records) {
            this.records = records;
        }

        /** Comes behind every change, so that questions find bonds and settled issues ready. */
        void refresh() {
            for (int i = 0; i < records.suitCount; i++) {
                Suit judged = records.suits[i];
                int settled = judged.settledIssues(records.rules[EACH]);
                judged.settledYes = settled & judged.yes;
                judged.settledNo = settled & judged.no;
                judged.boundLeft = reachOf(judged, judged.plaintiff);
                judged.boundRight = reachOf(judged, judged.defendant);
            }
        }

        private int reachOf(Suit judged, int party) {
            if (!judged.isJudged()) {
                return 0;
            }
            int reached = 1 << party;
            for (int round = 0; round < PERSONS_MOST; round++) {
                int before = reached;
                for (int i = 0; i < records.linkCount; i++) {
                    Link link = records.links[i];
                    if ((reached >> link.giver & 1) == 1 && link.carries(judged.day)) {
                        reached |= 1 << link.taker;
                    }
                }
                if (reached == before) {
                    return reached;
                }
            }
            return reached;
        }

        /**
         * Fills backward with the links from the person to the party: how many. Persons come into
         * the queue by the first chain of their length, so the first link to reach one is the right one.
         */
        int traceChain(Suit judged, int side, int person) {
            Arrays.fill(via, NONE);
            int party = judged.party(side);
            int seen = 1 << party;
            queue[0] = party;
            int waiting = 1;
            for (int head = 0; head < waiting && head < PERSONS_MOST; head++) {
                for (int i = 0; i < records.linkCount; i++) {
                    Link link = records.links[i];
                    boolean reaches = link.giver == queue[head] && link.carries(judged.day);
                    boolean fresh = isPerson(link.taker) && (seen >> link.taker & 1) == 0;
                    if (reaches && fresh && waiting < PERSONS_MOST) {
                        seen |= 1 << link.taker;
                        via[link.taker] = i;
                        queue[waiting] = link.taker;
                        waiting++;
                    }
                }
            }
            return goBack(person);
        }

        private int goBack(int person) {
            int length = 0;
            int link = linkTo(person);
            while (length < PERSONS_MOST && link >= 0 && link < records.linkCount) {
                backward[length] = link;
                link = linkTo(records.links[link].giver);
                length++;
            }
            return length;
        }

        private int linkTo(int person) {
            return isPerson(person) ? via[person] : NONE;
        }

        private static boolean isPerson(int person) {
            return person >= 0 && person < PERSONS_MOST;
        }

        int chainLink(int length, int k) {
            int place = length - 1 - k;
            return place >= 0 && place < PERSONS_MOST ? backward[place] : NONE;
        }

        boolean comesBehind(Suit later, Suit judged) {
            return later.number != judged.number && judged.counts() && later.filed >= judged.day;
        }

        boolean areSame(Suit one, Suit other) {
            int common = Integer.bitCount(one.facts & other.facts);
            int fewer = Math.min(Integer.bitCount(one.facts), Integer.bitCount(other.facts));
            return common > 0 && common * 100 >= records.rules[SHARE] * fewer;
        }

        /** Whether the judgment bars the suit, once that comes behind it. */
        private boolean barsWhatComes(Suit judged, Suit later) {
            if (!judged.merits) {
                return false;
            }
            int left = judged.boundLeft;
            int right = judged.boundRight;
            boolean again = (left >> later.plaintiff & right >> later.defendant & 1) == 1;
            boolean counter = (right >> later.plaintiff & left >> later.defendant & 1) == 1;
            return (again || counter && records.rules[MUTUAL] == 2) && areSame(judged, later);
        }

        int barringSuits(Suit later) {
            int barring = 0;
            for (int i = 0; i < records.suitCount; i++) {
                Suit judged = records.suits[i];
                if (comesBehind(later, judged) && barsWhatComes(judged, later)) {
                    barring |= 1 << i;
                }
            }
            return barring;
        }

        int lastFreeDay(Suit later) {
            int last = DAY_MOST;
            for (int i = 0; i < records.suitCount; i++) {
                Suit judged = records.suits[i];
                boolean another = i != later.number && judged.counts();
                if (another && barsWhatComes(judged, later)) {
                    last = Math.min(last, judged.day - 1);
                }
            }
            return last;
        }

        /** Issues of the later suit that are held by the judgment, counting or not. */
        private int heldBy(Suit judged, Suit later) {
            if (!comesBehind(later, judged)) {
                return 0;
            }
            int yes = judged.settledYes;
            int no = judged.settledNo;
            int held = 0;
            if (holdsAgainst(judged, later.defendant, later.plaintiff, false)) {
                held |= later.needs & yes | later.buts & no;
            }
            if (holdsAgainst(judged, later.plaintiff, later.defendant, true)) {
                held |= later.needs & no | later.buts & yes;
            }
            return held;
        }

        private boolean holdsAgainst(Suit judged, int loser, int other, boolean losesAsPlaintiff) {
            int left = judged.boundLeft;
            int right = judged.boundRight;
            if (((left | right) >> loser & 1) == 0) {
                return false;
            }
            int mutual = records.rules[MUTUAL];
            if (mutual == 2 || mutual == 1 && losesAsPlaintiff) {
                return true;
            }
            return ((left >> loser & right >> other | right >> loser & left >> other) & 1) == 1;
        }

        /** Fills holders, heldYes and heldNo for a suit. */
        void weigh(Suit later) {
            Arrays.fill(holders, NONE);
            heldYes = 0;
            heldNo = 0;
            for (int i = 0; i < records.suitCount; i++) {
                Suit judged = records.suits[i];
                int held = heldBy(judged, later);
                for (int issue = 0; issue < ISSUES_MOST && held != 0; issue++) {
                    if ((held >> issue & 1) == 1 && countsOverHolder(judged, issue)) {
                        setHolder(judged, issue);
                    }
                }
            }
        }

        /** Suits are weighed with rising numbers, so of one day the new one counts. */
        private boolean countsOverHolder(Suit judged, int issue) {
            int holder = holders[issue];
            boolean free = holder < 0 || holder >= records.suitCount;
            return free || judged.day >= records.suits[holder].day;
        }

        private void setHolder(Suit judged, int issue) {
            int bit = 1 << issue;
            holders[issue] = judged.number;
            heldYes = heldYes & ~bit | judged.yes & bit;
            heldNo = heldNo & ~bit | judged.no & bit;
        }

        int heldIssues(Suit later) {
            weigh(later);
            return heldYes | heldNo;
        }

        int holderCount(Suit later, int issue) {
            int count = 0;
            for (int i = 0; i < records.suitCount; i++) {
                count += heldBy(records.suits[i], later) >> issue & 1;
            }
            return count;
        }

        int forcedWay(Suit later) {
            if (barringSuits(later) != 0) {
                return 2;
            }
            weigh(later);
            if ((later.needs & heldNo | later.buts & heldYes) != 0) {
                return 1;
            }
            return (later.needs & ~heldYes | later.buts & ~heldNo) == 0 ? 0 : NONE;
        }

        /** The suits on whose judgments that of the suit stands. */
        int restsOn(Suit later) {
            if (!later.counts()) {
                return 0;
            }
            weigh(later);
            int alike = later.yes & heldYes | later.no & heldNo;
            int grounds = 0;
            for (int issue = 0; issue < ISSUES_MOST; issue++) {
                if ((alike >> issue & 1) == 1) {
                    grounds |= 1 << holders[issue];
                }
            }
            return grounds;
        }

        int restingOn(int suits) {
            int resting = 0;
            for (int i = 0; i < records.suitCount; i++) {
                rests[i] = restsOn(records.suits[i]);
                if ((rests[i] & suits) != 0) {
                    resting |= 1 << i;
                }
            }
            return resting;
        }

        int restingInTheEnd(int suit) {
            int resting = restingOn(1 << suit);
            for (int round = 0; round < SUITS_MOST; round++) {
                for (int i = 0; i < records.suitCount; i++) {
                    if ((rests[i] & resting) != 0) {
                        resting |= 1 << i;
                    }
                }
            }
            return resting;
        }

        /** The judgment is reversed for as long as it takes to look, and stands again then. */
        int changedWithout(Suit judged, int what) {
            int changed = 0;
            for (int i = 0; i < records.suitCount; i++) {
                Suit later = records.suits[i];
                int before = measure(later, what);
                judged.reversed = true;
                int after = measure(later, what);
                judged.reversed = false;
                if (before != after) {
                    changed |= 1 << i;
                }
            }
            return changed;
        }

        private int measure(Suit later, int what) {
            if (what == 0) {
                return barringSuits(later) == 0 ? 0 : 1;
            }
            return what == 1 ? Integer.bitCount(heldIssues(later)) : forcedWay(later);
        }

        int clashingIssues(Suit one, Suit other) {
            if ((one.boundAtAll() & other.boundAtAll()) == 0) {
                return 0;
            }
            return one.settledYes & other.settledNo | one.settledNo & other.settledYes;
        }

        int clashCount() {
            int count = 0;
            for (int i = 0; i < records.suitCount; i++) {
                for (int j = 0; j < i; j++) {
                    count += clashingIssues(records.suits[i], records.suits[j]) == 0 ? 0 : 1;
                }
            }
            return count;
        }

        int latestBinding(int person) {
            int latest = NONE;
            int latestDay = NONE;
            for (int i = 0; i < records.suitCount; i++) {
                Suit judged = records.suits[i];
                boolean binds = judged.counts() && (judged.boundAtAll() >> person & 1) == 1;
                if (binds && judged.day >= latestDay) {
                    latest = i;
                    latestDay = judged.day;
                }
            }
            return latest;
        }

        int boundOverIssue(int issue) {
            int persons = 0;
            for (int i = 0; i < records.suitCount; i++) {
                Suit judged = records.suits[i];
                if (((judged.settledYes | judged.settledNo) >> issue & 1) == 1) {
                    persons |= judged.boundAtAll();
                }
            }
            return persons;
        }

        /** What a question may ask of each suit, a row a suit, in the order of Asker's words. */
        void tabulate(int[] values) {
            for (int i = 0; i < records.suitCount && (i + 1) * Asker.WORDS <= values.length; i++) {
                Suit asked = records.suits[i];
                int row = i * Asker.WORDS;
                int held = heldIssues(asked);
                values[row] = i;
                values[row + 1] = asked.plaintiff;
                values[row + 2] = asked.defendant;
                values[row + 3] = asked.filed;
                values[row + 4] = asked.day;
                values[row + 5] = asked.reversed ? NONE : asked.winner();
                values[row + 6] = Integer.bitCount(barringSuits(asked));
                values[row + 7] = Integer.bitCount(held);
                values[row + 8] = Integer.bitCount(asked.allIssues() & ~held);
                values[row + 9] = forcedWay(asked);
            }
        }
    }

    /** Reads a question and answers it in one go: each part of it is the set of suits for which it holds. */
    private static final class Asker {
        static final int WORDS = 10;

        final Tape tape;
        final int[] values = new int[SUITS_MOST * WORDS];
        final int[] left = new int[SUITS_MOST];
        final int[] right = new int[SUITS_MOST];
        int suits;

        Asker(Tape tape) {
            this.tape = tape;
        }

        int answer(int n, int suitCount) {
            suits = Math.min(suitCount, SUITS_MOST);
            tape.open(n);
            boolean many = tape.isWord("many");
            if (!many && !tape.isWord("first")) {
                tape.fail(FAULT_PLACE);
            }
            tape.advance();
            int holding = anyHolds(0);
            if (tape.kind != Tape.AT_END) {
                tape.fail(FAULT_PLACE);
            }
            if (tape.fault != 0) {
                return ASK_FAULTS - tape.fault;
            }
            return many ? Integer.bitCount(holding) : lowestBit(holding);
        }

        private int anyHolds(int open) {
            int holding = allHold(open);
            for (int turns = QUESTION_MOST; turns > 0 && tape.fault == 0 && tape.isWord("or"); turns--) {
                tape.advance();
                holding |= allHold(open);
            }
            return holding;
        }

        private int allHold(int open) {
            int holding = factHolds(open);
            for (int turns = QUESTION_MOST; turns > 0 && tape.fault == 0 && tape.isWord("and"); turns--) {
                tape.advance();
                holding &= factHolds(open);
            }
            return holding;
        }

        private int factHolds(int open) {
            boolean denied = tape.isWord("not");
            boolean bracketed = tape.isSign('{');
            if (tape.fault == 0 && (denied || bracketed) && open >= OPEN_MOST) {
                tape.fail(FAULT_DEPTH);
            }
            if (tape.fault != 0) {
                return 0;
            }
            if (denied) {
                tape.advance();
                return ~factHolds(open + 1) & (1 << suits) - 1;
            }
            if (!bracketed) {
                return compare();
            }
            tape.advance();
            int holding = anyHolds(open + 1);
            tape.passSign('}');
            return holding;
        }

        private int compare() {
            readValue(left);
            boolean less = tape.isSign('<');
            boolean more = tape.isSign('>');
            if (!less && !more && !tape.isSign('=')) {
                tape.fail(FAULT_PLACE);
            }
            tape.advance();
            readValue(right);
            int holding = 0;
            for (int i = 0; i < suits; i++) {
                boolean equal = !less && !more && left[i] == right[i];
                if (equal || less && left[i] < right[i] || more && left[i] > right[i]) {
                    holding |= 1 << i;
                }
            }
            return holding;
        }

        private void readValue(int[] row) {
            int word = wordNumber();
            if (tape.kind != Tape.NUMBER && word == NONE) {
                tape.fail(FAULT_PLACE);
            } else if (word == NONE && tape.value > DAY_MOST) {
                tape.fail(FAULT_NUMBER);
            }
            for (int i = 0; i < suits && i < row.length; i++) {
                row[i] = word == NONE ? tape.value : values[i * WORDS + word];
            }
            tape.advance();
        }

        private int wordNumber() {
            if (tape.isWord("suit")) {
                return 0;
            }
            if (tape.isWord("plaintiff")) {
                return 1;
            }
            if (tape.isWord("defendant")) {
                return 2;
            }
            if (tape.isWord("filed")) {
                return 3;
            }
            if (tape.isWord("day")) {
                return 4;
            }
            if (tape.isWord("wins")) {
                return 5;
            }
            if (tape.isWord("barred")) {
                return 6;
            }
            if (tape.isWord("held")) {
                return 7;
            }
            if (tape.isWord("open")) {
                return 8;
            }
            return tape.isWord("forced") ? 9 : NONE;
        }
    }

    /** What it takes to undo the latest acts, a row an act, the latest last. */
    private static final class Acts {
        static final int JUDGMENT = 0;
        static final int FINDING = 1;
        static final int REVERSAL = 2;
        static final int TYING = 3;
        static final int CUTTING = 4;
        static final int RULING = 5;
        static final int WIDTH = 6;

        final int[] rows = new int[ACTS_MOST * WIDTH];
        int keptCount;

        void note(int kind, int place, int first, int second, int third, int fourth) {
            if (keptCount >= ACTS_MOST) {
                System.arraycopy(rows, WIDTH, rows, 0, rows.length - WIDTH);
                keptCount = ACTS_MOST - 1;
            }
            int row = keptCount * WIDTH;
            rows[row] = kind;
            rows[row + 1] = place;
            rows[row + 2] = first;
            rows[row + 3] = second;
            rows[row + 4] = third;
            rows[row + 5] = fourth;
            keptCount++;
        }

        void takeBack(Records records) {
            if (keptCount <= 0) {
                return;
            }
            keptCount--;
            int row = keptCount * WIDTH;
            int kind = rows[row];
            int place = rows[row + 1];
            if (kind == TYING) {
                records.removeLink(place);
            } else if (kind == CUTTING) {
                records.insertLink(place, rows[row + 2], rows[row + 3], rows[row + 4], rows[row + 5]);
            } else if (kind == RULING && place >= SHARE && place <= EACH) {
                records.rules[place] = rows[row + 2];
            } else if (place >= 0 && place < records.suitCount) {
                takeBackOf(records.suits[place], row);
            }
        }

        private void takeBackOf(Suit judged, int row) {
            if (rows[row] == JUDGMENT) {
                judged.decide(NONE, false);
            } else if (rows[row] == REVERSAL) {
                judged.reversed = !judged.reversed;
            } else {
                judged.yes = rows[row + 2];
                judged.no = rows[row + 3];
                judged.untried = rows[row + 4];
            }
        }
    }

    /** The bytes of what was said last. */
    private static final class Speech {
        final byte[] bytes = new byte[SPEECH_MOST];
        int length;

        void addHeld(int issue, boolean yes, int holder) {
            if (length > 0) {
                addSign(',');
            }
            addNumber(issue);
            addSign(yes ? 'y' : 'n');
            addSign('@');
            addNumber(holder);
        }

        /** Numbers here have at most two figures. */
        void addNumber(int number) {
            if (number >= 10) {
                addSign((char) ('0' + number / 10));
            }
            addSign((char) ('0' + number % 10));
        }

        void addSign(char sign) {
            if (length < SPEECH_MOST) {
                bytes[length] = (byte) sign;
                length++;
            }
        }
    }
}
