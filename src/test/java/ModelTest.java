import java.io.ByteArrayOutputStream;
import java.util.ArrayDeque;
import java.util.Deque;
import java.util.NoSuchElementException;
import java.util.Random;

/** Random runs, with fixed seeds, on the class and on the model side by side: all answers must be alike. */
public final class ModelTest {
    private static final int RUNS = 700;
    private static final int CALLS = 500;
    private static final String[] VALUES = {
        "suit", "plaintiff", "defendant", "filed", "day", "wins", "barred", "held", "open", "forced"};

    private final Random random;
    private final String run;
    private final BarredSuits x = new BarredSuits();
    private ByteArrayOutputStream tape = new ByteArrayOutputStream();
    private Model model = new Model();
    private Model image = null;
    private Deque<Model> acts = new ArrayDeque<>();
    private int fault = -1;
    private String said = "";
    private int days;
    private int issues;
    private int calls = 0;

    private ModelTest(long seed) {
        random = new Random(seed);
        run = "run " + seed + ": ";
        days = new int[] {1, 3, 8, 30}[random.nextInt(4)];
        issues = new int[] {2, 4, 6, 31}[random.nextInt(4)];
    }

    private int upTo(int most) {
        return random.nextInt(most + 1);
    }

    private boolean often(int percent) {
        return random.nextInt(100) < percent;
    }

    private int day() {
        return often(2) ? 9999 : often(2) ? 9998 + upTo(4) : upTo(days);
    }

    private int suitNumber() {
        return often(4) ? new int[] {-1, Integer.MIN_VALUE, Integer.MAX_VALUE, model.suits.size()}[upTo(3)]
                : upTo(Math.max(model.suits.size() - 1, 0));
    }

    private int personNumber() {
        return often(4) ? new int[] {-1, Integer.MIN_VALUE, Integer.MAX_VALUE, model.names.size()}[upTo(3)]
                : upTo(Math.max(model.names.size() - 1, 0));
    }

    private int issueNumber() {
        return often(3) ? new int[] {-1, 31, 32, 33, 64, Integer.MAX_VALUE, Integer.MIN_VALUE}[upTo(6)] : upTo(issues - 1);
    }

    private int bitsOfIssues() {
        int bits = 0;
        for (int i = 0; i < issues; i++) {
            bits |= often(40) ? 1 << i : 0;
        }
        return bits & Integer.MAX_VALUE;
    }

    private String set(String word, int percent, int bits) {
        if (bits == 0 && often(80) || often(3)) {
            return "";
        }
        StringBuilder text = new StringBuilder(" ").append(word);
        for (int i = 0; i < 31; i++) {
            if ((bits & 1 << i) != 0 && often(percent)) {
                text.append(' ').append(often(5) ? "00" : "").append(i);
            }
        }
        return text.toString();
    }

    /** A text that is mostly without faults. */
    private String text() {
        StringBuilder text = new StringBuilder();
        int persons = 2 + upTo(often(10) ? 11 : 4);
        for (int i = 0; i < persons; i++) {
            text.append("person ").append(name(i)).append(';');
        }
        int many = upTo(often(10) ? 25 : 6);
        for (int i = 0; i < many; i++) {
            int p = upTo(persons - 1);
            int from = day();
            boolean heir = often(50);
            text.append(heir ? "heir " : "ruler ").append(name(p)).append(' ').append(name(other(p, persons)));
            text.append(' ').append(from).append(heir ? "" : " " + (from + upTo(days))).append(';');
        }
        many = upTo(often(10) ? 11 : 6);
        for (int i = 0; i < many; i++) {
            suitText(text, i, persons);
        }
        text.append(often(30) ? "share " + (1 + upTo(99)) + ";" : "");
        text.append(often(60) ? "mutual " + upTo(2) + ";" : "");
        text.append(often(60) ? "each " + upTo(1) + "; \n" : "");
        return text.toString();
    }

    private void suitText(StringBuilder text, int number, int persons) {
        int p = upTo(persons - 1);
        int filed = day();
        int needs = bitsOfIssues();
        int buts = bitsOfIssues() & ~needs;
        text.append("suit ").append(name(p)).append(' ').append(name(other(p, persons))).append(' ').append(filed);
        text.append(set("facts", 100, bitsOfIssues())).append(set("needs", 100, needs)).append(set("buts", 100, buts));
        text.append(';');
        if (often(75)) {
            int found = (needs | buts) & (often(50) ? -1 : bitsOfIssues());
            int yes = often(40) ? found & needs : found & bitsOfIssues();
            text.append("judged ").append(number).append(' ').append(Math.min(9999, filed + upTo(often(50) ? 0 : days)));
            text.append(often(85) ? " merits" : " form");
            text.append(set("yes", 100, yes)).append(set("no", 100, found & ~yes)).append(set("untried", 20, found));
            text.append(often(5) ? ";reversed " + number + ";" : ";");
        }
    }

    private int other(int p, int persons) {
        return often(1) ? p : (p + 1 + upTo(persons - 2)) % persons;
    }

    private String name(int i) {
        return i % 3 == 0 ? "" + (char) ('a' + i) : i % 3 == 1 ? "suit" + (char) ('a' + i) : "longe" + (char) ('z' - i);
    }

    private String spoiled(String text) {
        StringBuilder spoilt = new StringBuilder(text);
        int times = 1 + upTo(2);
        for (int t = 0; t < times && spoilt.length() > 0; t++) {
            int i = random.nextInt(spoilt.length());
            switch (upTo(6)) {
                case 0: spoilt.setCharAt(i, (char) upTo(255)); break;
                case 1: spoilt.deleteCharAt(i); break;
                case 2: spoilt.insert(i, ";{ =7\n\tzperson".charAt(upTo(13))); break;
                case 3: spoilt.setLength(i); break;
                case 4: spoilt.insert(i, " " + upTo(12000) + " "); break;
                case 5: spoilt.insert(i, new String[] {" person ", " yes ", ";", " suit ", " facts ", " not ", "{"}[upTo(6)]); break;
                default: spoilt.setCharAt(i, (char) ('0' + upTo(9))); break;
            }
        }
        return spoilt.toString();
    }

    private String question() {
        StringBuilder text = new StringBuilder(often(50) ? "many " : "first ");
        test(text, 0);
        return text.toString();
    }

    private void test(StringBuilder text, int depth) {
        int parts = 1 + upTo(often(60) ? 0 : 2);
        for (int i = 0; i < parts; i++) {
            text.append(i == 0 ? "" : often(50) ? " and " : " or ");
            fact(text, depth);
        }
    }

    private void fact(StringBuilder text, int depth) {
        if (depth < 8 && often(depth < 2 ? 30 : 55 - 8 * depth)) {
            text.append("not ");
            fact(text, depth + 1);
        } else if (depth < 8 && often(depth < 2 ? 25 : 50 - 8 * depth)) {
            text.append('{');
            test(text, depth + 1);
            text.append('}');
        } else {
            value(text);
            text.append("<=>".charAt(upTo(2)));
            value(text);
        }
    }

    private void value(StringBuilder text) {
        text.append(often(60) ? VALUES[upTo(9)] : "" + (often(2) ? 9999 + upTo(1) : often(50) ? upTo(2) : day()));
    }

    private void feed(String text) {
        byte[] bytes = Check.bytesOf(text);
        for (int at = 0; at < bytes.length; at += 20) {
            int[] n = new int[5];
            byte[] twenty = new byte[20];
            for (int i = 0; i < 20; i++) {
                twenty[i] = at + i < bytes.length ? bytes[at + i] : (byte) upTo(255);
                n[i / 4] = n[i / 4] << 8 | twenty[i] & 255;
            }
            boolean room = tape.size() + 20 <= 600;
            if (room) {
                tape.write(twenty, 0, 20);
            }
            calls++;
            Check.due(run + "feed", x.feed(n[0], n[1], n[2], n[3], n[4]), room ? tape.size() : -1);
        }
    }

    private byte[] takenFromTape(int n) {
        byte[] all = tape.toByteArray();
        tape = new ByteArrayOutputStream();
        return java.util.Arrays.copyOf(all, n);
    }

    private void desk() {
        String text = text();
        if (often(25)) {
            text = spoiled(text);
        }
        feed(text);
        int n = often(4) ? upTo(700) - 20 : Math.min(text.length(), tape.size());
        long want;
        if (n < 0 || n > tape.size()) {
            want = Check.ILLEGAL;
        } else {
            byte[] bytes = takenFromTape(n);
            try {
                model = Model.of(bytes);
                acts.clear();
                fault = -1;
                want = model.suits.size();
            } catch (Model.Fault f) {
                fault = f.place;
                want = -10 - f.which;
            }
            text = new String(bytes, java.nio.charset.StandardCharsets.ISO_8859_1);
        }
        Check.due(run + "desk " + text, Check.answer(() -> x.desk(n)), want);
        calls++;
    }

    private void ask() {
        String text = question();
        if (often(20)) {
            text = spoiled(text);
        }
        feed(text);
        int n = often(4) ? upTo(300) - 20 : Math.min(text.length(), tape.size());
        long want;
        if (n < 0 || n > tape.size() || n > 200) {
            want = Check.ILLEGAL;
        } else {
            try {
                byte[] bytes = takenFromTape(n);
                want = model.ask(bytes);
                fault = -1;
            } catch (Model.Fault f) {
                fault = f.place;
                want = -1000000000L - f.which;
            }
        }
        Check.due(run + "ask " + text, Check.answer(() -> x.ask(n)), want);
        calls++;
    }

    private void act(Model before) {
        acts.addLast(before);
        if (acts.size() > 12) {
            acts.removeFirst();
        }
    }

    private void needSuit(int suit) {
        if (suit < 0 || suit >= model.suits.size()) {
            throw new NoSuchElementException();
        }
    }

    private void needPerson(int person) {
        if (person < 0 || person >= model.names.size()) {
            throw new NoSuchElementException();
        }
    }

    private static void need(boolean stands) {
        if (!stands) {
            throw new NoSuchElementException();
        }
    }

    private static void needLegal(boolean stands) {
        if (!stands) {
            throw new IllegalArgumentException();
        }
    }

    private long modelJudge(int suit, int day, boolean merits) {
        needSuit(suit);
        Model before = model.copy();
        Model.Suit s = model.suits.get(suit);
        needLegal(day >= s.filed && day <= 9999);
        if (s.judged) {
            return 0;
        }
        s.judged = true;
        s.day = day;
        s.merits = merits;
        act(before);
        return 1;
    }

    private long modelFind(int suit, int issue, int how, boolean tried) {
        needSuit(suit);
        Model before = model.copy();
        Model.Suit s = model.suits.get(suit);
        need(s.issues().contains(issue));
        needLegal(how == 0 || how == 1 || how == -1);
        if (!s.judged) {
            return -1;
        }
        int was = s.yes.contains(issue) ? 1 : s.no.contains(issue) ? 0 : -1;
        s.yes.remove(issue);
        s.no.remove(issue);
        s.untried.remove(issue);
        if (how >= 0) {
            (how == 1 ? s.yes : s.no).add(issue);
            if (!tried) {
                s.untried.add(issue);
            }
        }
        act(before);
        return was;
    }

    private long modelReverse(int suit) {
        needSuit(suit);
        Model before = model.copy();
        Model.Suit s = model.suits.get(suit);
        if (!s.judged) {
            return 0;
        }
        s.reversed = !s.reversed;
        act(before);
        return s.reversed ? 1 : 0;
    }

    private long modelTie(int p, int q, int from, int to) {
        needPerson(p);
        needPerson(q);
        need(p != q);
        needLegal(from >= 0 && from <= 9999 && (to == -1 || to >= from && to <= 9999));
        if (model.links.size() == 24) {
            return -1;
        }
        act(model.copy());
        Model.Link l = new Model.Link();
        l.p = p;
        l.q = q;
        l.from = from;
        l.ruler = to != -1;
        l.to = l.ruler ? to : 9999;
        model.links.add(l);
        return model.links.size() - 1;
    }

    private long modelCut(int link) {
        need(link >= 0 && link < model.links.size());
        act(model.copy());
        model.links.remove(link);
        return model.links.size();
    }

    private long modelRule(int what, int v) {
        need(what >= 0 && what <= 2);
        needLegal(what == 0 ? v >= 1 && v <= 100 : what == 1 ? v >= 0 && v <= 2 : v == 0 || v == 1);
        act(model.copy());
        int was = what == 0 ? model.share : what == 1 ? model.mutual : model.each;
        if (what == 0) {
            model.share = v;
        } else if (what == 1) {
            model.mutual = v;
        } else {
            model.each = v;
        }
        return was;
    }

    private void change() {
        int suit = suitNumber();
        int issue = issueNumber();
        int day = day();
        boolean flag = often(75);
        int how = often(3) ? 2 + upTo(3) * -3 : upTo(2) - 1;
        int p = personNumber();
        int q = personNumber();
        int to = often(50) ? -1 : often(5) ? -2 : day + upTo(days) - (often(10) ? 2 : 0);
        int link = often(10) ? upTo(50) - 20 : upTo(Math.max(0, model.links.size() - 1));
        int what = upTo(3) - (often(3) ? 2 : 0);
        int v = often(30) ? upTo(102) - 1 : upTo(3) - 1;
        calls++;
        switch (upTo(9)) {
            case 0: both("judge " + suit + " " + day, () -> x.judge(suit, day, flag) ? 1 : 0, () -> modelJudge(suit, day, flag)); break;
            case 1: case 2: case 3:
                both("find " + suit + " " + issue + " " + how, () -> x.find(suit, issue, how, flag), () -> modelFind(suit, issue, how, flag));
                break;
            case 4: both("reverse " + suit, () -> x.reverse(suit) ? 1 : 0, () -> modelReverse(suit)); break;
            case 5: both("tie", () -> x.tie(p, q, day, to), () -> modelTie(p, q, day, to)); break;
            case 6: both("cut " + link, () -> x.cut(link), () -> modelCut(link)); break;
            case 7: both("rule " + what + " " + v, () -> x.rule(what, v), () -> modelRule(what, v)); break;
            default: undoSome(); break;
        }
    }

    private void undoSome() {
        int times = 1 + upTo(often(10) ? 14 : 1);
        for (int i = 0; i < times; i++) {
            calls++;
            if (acts.isEmpty()) {
                Check.due(run + "undo", x.undo(), -1);
            } else {
                model = acts.removeLast();
                Check.due(run + "undo", x.undo(), acts.size());
            }
        }
    }

    private void both(String call, java.util.function.LongSupplier real, java.util.function.LongSupplier due) {
        Check.due(run + calls + " " + call, Check.answer(real), Check.answer(due));
    }

    private long modelCount(int what) {
        switch (what) {
            case 0: return model.names.size();
            case 1: return model.links.size();
            case 2: return model.suits.size();
            case 3: return model.suits.stream().filter(s -> s.judged).count();
            case 4: return model.suits.stream().filter(s -> s.reversed).count();
            case 5: return model.share;
            case 6: return model.mutual;
            case 7: return model.each;
            case 8: return acts.size();
            case 9: return tape.size();
            case 10: return model.clashes();
            default: throw new NoSuchElementException();
        }
    }

    private long modelLetter(int person, int k) {
        needPerson(person);
        need(k >= 0 && k <= 5);
        String name = model.names.get(person);
        return k < name.length() ? name.charAt(k) - 'a' + 1 : 0;
    }

    private long modelLink(int link, int what) {
        need(link >= 0 && link < model.links.size() && what >= 0 && what <= 4);
        Model.Link l = model.links.get(link);
        return new int[] {l.p, l.q, l.ruler ? 1 : 0, l.from, l.to}[what];
    }

    private long modelSuit(int suit, int what) {
        needSuit(suit);
        need(what >= 0 && what <= 14);
        Model.Suit s = model.suits.get(suit);
        return new int[] {s.plaintiff, s.defendant, s.filed, Model.bits(s.facts), Model.bits(s.needs), Model.bits(s.buts),
            s.judged ? s.day : -1, s.merits ? 1 : 0, s.reversed ? 1 : 0, Model.bits(s.yes), Model.bits(s.no),
            Model.bits(s.untried), s.wins(), Model.bits(model.necessary(suit)), Model.bits(model.settled(suit))}[what];
    }

    private long modelBound(int suit, int side, int person) {
        needSuit(suit);
        needPerson(person);
        need(side == 0 || side == 1);
        return model.bound(suit, side, person) ? 1 : 0;
    }

    private long modelChain(int suit, int side, int person, int k) {
        if (modelBound(suit, side, person) == 0) {
            return -1;
        }
        java.util.List<Integer> chain = model.chain(suit, side, person);
        need(k >= -1 && k < chain.size());
        return k == -1 ? chain.size() : chain.get(k);
    }

    private long modelTwo(int a, int b, int what) {
        needSuit(a);
        needSuit(b);
        need(what >= 0 && what <= 5);
        switch (what) {
            case 0: return Model.bits(model.suits.get(a).facts) & Model.bits(model.suits.get(b).facts);
            case 1: return model.same(a, b) ? 1 : 0;
            case 2: return model.barredBy(a, b) ? 1 : 0;
            case 3: return model.behind(a, b) ? 1 : 0;
            case 4: return model.standsOn(a, b) ? 1 : 0;
            default: return model.clash(a, b);
        }
    }

    private long modelHeld(int suit, int issue, int what) {
        needSuit(suit);
        need(model.suits.get(suit).issues().contains(issue) && what >= 0 && what <= 2);
        return what == 0 ? model.holder(suit, issue) : what == 1 ? model.heldHow(suit, issue) : model.holders(suit, issue);
    }

    private long modelIssues(int suit, int what) {
        needSuit(suit);
        need(what == 0 || what == 1);
        int held = Model.bits(model.held(suit));
        return what == 0 ? held : Model.bits(model.suits.get(suit).issues()) & ~held;
    }

    private long modelSay(int suit) {
        needSuit(suit);
        said = model.said(suit);
        return said.length();
    }

    private long modelWould(int sides, int day, int facts, int needs, int buts, int what) {
        need(sides >= 0 && what >= 0 && what <= 2);
        needPerson(sides / 12);
        needPerson(sides % 12);
        need(sides / 12 != sides % 12);
        needLegal((needs & buts) == 0 && facts >= 0 && needs >= 0 && buts >= 0 && day >= 0 && day <= 9999);
        return model.would(sides, day, facts, needs, buts, what);
    }

    private void look() {
        int suit = suitNumber();
        int second = suitNumber();
        int person = personNumber();
        int issue = issueNumber();
        int side = often(3) ? 2 - 3 * upTo(1) : upTo(1);
        int k = upTo(7) - 2;
        int what = upTo(16) - 1;
        int few = upTo(6) - (often(3) ? 2 : 0);
        int link = upTo(model.links.size() + 1) - 1;
        calls++;
        switch (upTo(19)) {
            case 0: both("count " + what, () -> x.count(what), () -> modelCount(what)); break;
            case 1: both("letter", () -> x.letter(person, k), () -> modelLetter(person, k)); break;
            case 2: both("link", () -> x.link(link, few), () -> modelLink(link, few)); break;
            case 3: both("suit " + suit + " " + what, () -> x.suit(suit, what), () -> modelSuit(suit, what)); break;
            case 4: both("isBound", () -> x.isBound(suit, side, person) ? 1 : 0, () -> modelBound(suit, side, person)); break;
            case 5: both("chain", () -> x.chain(suit, side, person, k), () -> modelChain(suit, side, person, k)); break;
            case 6: both("two " + suit + " " + second + " " + few, () -> x.two(suit, second, few), () -> modelTwo(suit, second, few)); break;
            case 7: both("barred", () -> x.barred(suit), () -> { needSuit(suit); return model.barred(suit); }); break;
            case 8: both("held", () -> x.held(suit, issue, few), () -> modelHeld(suit, issue, few)); break;
            case 9: both("issues", () -> x.issues(suit, few), () -> modelIssues(suit, few)); break;
            case 10: both("forced", () -> x.forced(suit), () -> { needSuit(suit); return model.forced(suit); }); break;
            case 11: both("say", () -> x.say(suit), () -> modelSay(suit)); break;
            case 12: case 13:
                int i = upTo(said.length() + 2) - 1;
                both("said", () -> x.said(i), () -> i >= 0 && i < said.length() ? said.charAt(i) : -1);
                break;
            case 14: both("latest", () -> x.latest(person), () -> { needPerson(person); return model.latest(person); }); break;
            case 15:
                both("goes " + suit + " " + few, () -> x.goes(suit, few), () -> {
                    needSuit(suit);
                    need(few >= 0 && few <= 4);
                    return model.goes(suit, few);
                });
                break;
            case 16: wouldLook(few); break;
            case 17: both("freeTill", () -> x.freeTill(suit), () -> { needSuit(suit); return model.freeTill(suit); }); break;
            case 18: both("against", () -> x.against(issue), () -> { need(issue >= 0 && issue <= 30); return model.against(issue); }); break;
            default: both("fault", x::fault, () -> fault); break;
        }
    }

    private void wouldLook(int what) {
        int sides = often(5) ? upTo(200) - 30 : upTo(Math.max(model.names.size() - 1, 0)) * 12 + upTo(Math.max(model.names.size() - 1, 0));
        int day = often(5) ? -1 : day();
        int facts = bitsOfIssues() | (often(3) ? Integer.MIN_VALUE : 0);
        int needs = bitsOfIssues() | (often(3) ? Integer.MIN_VALUE : 0);
        int buts = bitsOfIssues() & (often(5) ? -1 : ~needs);
        both("would", () -> x.would(sides, day, facts, needs, buts, what), () -> modelWould(sides, day, facts, needs, buts, what));
    }

    private void go() {
        if (often(90)) {
            desk();
        }
        while (calls < CALLS - 60) {
            int turn = upTo(99);
            if (turn < 2) {
                desk();
            } else if (turn < 8) {
                ask();
            } else if (turn < 28) {
                change();
            } else if (turn < 30) {
                x.image();
                image = model.copy();
                calls++;
            } else if (turn < 32) {
                Check.due(run + "back", x.back(), image != null);
                calls++;
                if (image != null) {
                    model = image.copy();
                    acts.clear();
                }
            } else {
                look();
            }
        }
    }

    /** All that fits: twelve persons, twenty-four links, ten suits, nearly all of them judged. */
    private void goFull() {
        StringBuilder text = new StringBuilder();
        for (int i = 0; i < 12; i++) {
            text.append("person ").append((char) ('a' + i)).append(';');
        }
        issues = 3;
        for (int i = 0; i < 10; i++) {
            int p = upTo(2);
            text.append("suit ").append((char) ('a' + p)).append(' ').append((char) ('a' + (p + 1 + upTo(1)) % 3));
            text.append(' ').append(upTo(days)).append("facts0needs0 2buts1;");
        }
        feed(text.toString());
        model = Model.of(Check.bytesOf(text.toString()));
        tape = new ByteArrayOutputStream();
        Check.due(run + "full desk", x.desk(text.length()), 10);
        for (int i = 0; i < 25; i++) {
            int p = upTo(11);
            int q = (p + 1 + upTo(10)) % 12;
            int from = upTo(days);
            int to = often(50) ? -1 : from + upTo(days);
            both("tie", () -> x.tie(p, q, from, to), () -> modelTie(p, q, from, to));
        }
        for (int i = 0; i < 10; i++) {
            int suit = i;
            int day = model.suits.get(i).filed + (often(70) ? 0 : upTo(days));
            both("judge", () -> x.judge(suit, day, true) ? 1 : 0, () -> modelJudge(suit, day, true));
            for (int k = 0; k < 3; k++) {
                int issue = k;
                int how = often(70) ? 1 - k % 2 : upTo(1);
                both("find", () -> x.find(suit, issue, how, true), () -> modelFind(suit, issue, how, true));
            }
        }
        calls += 110;
        for (int i = 0; i < 300; i++) {
            if (often(90)) {
                look();
            } else {
                ask();
            }
        }
    }

    public static void main(String[] args) {
        int first = args.length > 0 ? Integer.parseInt(args[0]) : 1;
        int runs = args.length > 1 ? Integer.parseInt(args[1]) : RUNS;
        for (int seed = first; seed < first + runs; seed++) {
            new ModelTest(seed).go();
            if (seed % 5 == 0) {
                new ModelTest(seed).goFull();
            }
        }
        Check.finish("ModelTest");
    }
}
