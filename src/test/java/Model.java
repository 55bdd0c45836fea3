import java.math.BigInteger;
import java.util.ArrayList;
import java.util.HashSet;
import java.util.List;
import java.util.Set;
import java.util.TreeSet;

/** The document once more, as slow and as literal as can be, to hold the class against. */
final class Model {
    static final class Fault extends RuntimeException {
        private static final long serialVersionUID = 1L;
        final int which;
        final int place;

        Fault(int which, int place) {
            this.which = which;
            this.place = place;
        }
    }

    static final class Token {
        final char kind; // w, n, s, e
        final String text;
        final int place;

        Token(char kind, String text, int place) {
            this.kind = kind;
            this.text = text;
            this.place = place;
        }

        boolean is(String wanted) {
            return kind != 'e' && text.equals(wanted);
        }
    }

    static final class Link {
        int p;
        int q;
        boolean ruler;
        int from;
        int to;

        Link copy() {
            Link l = new Link();
            l.p = p;
            l.q = q;
            l.ruler = ruler;
            l.from = from;
            l.to = to;
            return l;
        }
    }

    static final class Suit {
        int plaintiff;
        int defendant;
        int filed;
        Set<Integer> facts = new TreeSet<>();
        Set<Integer> needs = new TreeSet<>();
        Set<Integer> buts = new TreeSet<>();
        boolean judged;
        int day = -1;
        boolean merits;
        boolean reversed;
        Set<Integer> yes = new TreeSet<>();
        Set<Integer> no = new TreeSet<>();
        Set<Integer> untried = new TreeSet<>();

        Suit copy() {
            Suit s = new Suit();
            s.plaintiff = plaintiff;
            s.defendant = defendant;
            s.filed = filed;
            s.facts = new TreeSet<>(facts);
            s.needs = new TreeSet<>(needs);
            s.buts = new TreeSet<>(buts);
            s.judged = judged;
            s.day = day;
            s.merits = merits;
            s.reversed = reversed;
            s.yes = new TreeSet<>(yes);
            s.no = new TreeSet<>(no);
            s.untried = new TreeSet<>(untried);
            return s;
        }

        Set<Integer> issues() {
            Set<Integer> all = new TreeSet<>(needs);
            all.addAll(buts);
            return all;
        }

        int wins() {
            if (!judged || !merits) {
                return -1;
            }
            for (int need : needs) {
                if (!yes.contains(need)) {
                    return 1;
                }
            }
            for (int but : buts) {
                if (yes.contains(but)) {
                    return 1;
                }
            }
            return 0;
        }
    }

    List<String> names = new ArrayList<>();
    List<Link> links = new ArrayList<>();
    List<Suit> suits = new ArrayList<>();
    int share = 50;
    int mutual = 0;
    int each = 0;

    Model copy() {
        Model m = new Model();
        m.names.addAll(names);
        for (Link l : links) {
            m.links.add(l.copy());
        }
        for (Suit s : suits) {
            m.suits.add(s.copy());
        }
        m.share = share;
        m.mutual = mutual;
        m.each = each;
        return m;
    }

    static int bits(Set<Integer> set) {
        int bits = 0;
        for (int i : set) {
            bits |= 1 << i;
        }
        return bits;
    }

    static Set<Integer> setOf(int bits) {
        Set<Integer> set = new TreeSet<>();
        for (int i = 0; i < 31; i++) {
            if ((bits & 1 << i) != 0) {
                set.add(i);
            }
        }
        return set;
    }

    // Texts.

    static List<Token> tokens(byte[] text) {
        List<Token> all = new ArrayList<>();
        int i = 0;
        while (i < text.length) {
            char c = (char) (text[i] & 255);
            if (c == 32 || c == 10) {
                i++;
                continue;
            }
            char kind = Character.toString(c).matches("[a-z]") ? 'w' : Character.toString(c).matches("[0-9]") ? 'n' : 's';
            StringBuilder row = new StringBuilder();
            int place = i;
            do {
                row.append((char) (text[i] & 255));
                i++;
            } while (kind != 's' && i < text.length
                    && Character.toString((char) (text[i] & 255)).matches(kind == 'w' ? "[a-z]" : "[0-9]"));
            all.add(new Token(kind, row.toString(), place));
        }
        all.add(new Token('e', "", text.length));
        return all;
    }

    private List<Token> row;
    private int at;

    private Token here() {
        return row.get(at);
    }

    private Fault faultHere(int which) {
        return new Fault(which, here().place);
    }

    /** A model of a text's telling, or the Fault. */
    static Model of(byte[] text) {
        Model m = new Model();
        m.row = tokens(text);
        m.at = 0;
        while (m.here().kind != 'e') {
            m.line();
            if (!m.here().is(";")) {
                throw m.faultHere(1);
            }
            m.at++;
        }
        return m;
    }

    private void line() {
        switch (here().text) {
            case "person": {
                if (names.size() == 12) {
                    throw faultHere(4);
                }
                at++;
                String name = nameHere();
                if (names.contains(name)) {
                    throw faultHere(3);
                }
                names.add(name);
                at++;
                break;
            }
            case "heir":
            case "ruler": {
                if (links.size() == 24) {
                    throw faultHere(4);
                }
                Link l = new Link();
                l.ruler = here().text.equals("ruler");
                at++;
                l.p = toldName(-1);
                l.q = toldName(l.p);
                l.from = number(0, 9999);
                l.to = l.ruler ? number(l.from, 9999) : 9999;
                links.add(l);
                break;
            }
            case "suit": {
                if (suits.size() == 10) {
                    throw faultHere(4);
                }
                at++;
                Suit s = new Suit();
                s.plaintiff = toldName(-1);
                s.defendant = toldName(s.plaintiff);
                s.filed = number(0, 9999);
                Set<Integer> all = setOf(Integer.MAX_VALUE);
                set("facts", s.facts, all, Set.of());
                set("needs", s.needs, all, Set.of());
                set("buts", s.buts, all, s.needs);
                suits.add(s);
                break;
            }
            case "judged": {
                at++;
                peekNumber(0, suits.size() - 1);
                Suit s = suits.get(Integer.parseInt(here().text));
                if (s.judged) {
                    throw faultHere(2);
                }
                at++;
                s.day = number(s.filed, 9999);
                s.judged = true;
                if (!here().is("merits") && !here().is("form")) {
                    throw faultHere(1);
                }
                s.merits = here().is("merits");
                at++;
                set("yes", s.yes, s.issues(), Set.of());
                set("no", s.no, s.issues(), s.yes);
                Set<Integer> found = new TreeSet<>(s.yes);
                found.addAll(s.no);
                set("untried", s.untried, found, Set.of());
                break;
            }
            case "reversed": {
                at++;
                peekNumber(0, suits.size() - 1);
                Suit s = suits.get(Integer.parseInt(here().text));
                if (!s.judged || s.reversed) {
                    throw faultHere(2);
                }
                s.reversed = true;
                at++;
                break;
            }
            case "share":
                at++;
                share = number(1, 100);
                break;
            case "mutual":
                at++;
                mutual = number(0, 2);
                break;
            case "each":
                at++;
                each = number(0, 1);
                break;
            default:
                throw faultHere(1);
        }
    }

    private String nameHere() {
        if (!here().text.matches("[a-z]{1,6}") || here().text.equals("person")) {
            throw faultHere(1);
        }
        return here().text;
    }

    private int toldName(int unlike) {
        int person = names.indexOf(nameHere());
        if (person < 0 || person == unlike) {
            throw faultHere(3);
        }
        at++;
        return person;
    }

    private void peekNumber(int least, int most) {
        if (here().kind != 'n') {
            throw faultHere(1);
        }
        BigInteger n = new BigInteger(here().text);
        if (n.compareTo(BigInteger.valueOf(least)) < 0 || n.compareTo(BigInteger.valueOf(most)) > 0) {
            throw faultHere(2);
        }
    }

    private int number(int least, int most) {
        peekNumber(least, most);
        int n = new BigInteger(here().text).intValue();
        at++;
        return n;
    }

    private void set(String word, Set<Integer> into, Set<Integer> of, Set<Integer> not) {
        if (!here().is(word)) {
            return;
        }
        at++;
        while (here().kind == 'n') {
            peekNumber(0, 30);
            int n = Integer.parseInt(here().text);
            if (!of.contains(n) || not.contains(n) || into.contains(n)) {
                throw faultHere(2);
            }
            into.add(n);
            at++;
        }
    }

    // What follows.

    Set<Integer> necessary(int suit) {
        Suit s = suits.get(suit);
        Set<Integer> set = new TreeSet<>();
        if (s.wins() == 0) {
            set.addAll(s.needs);
            for (int but : s.buts) {
                if (s.no.contains(but)) {
                    set.add(but);
                }
            }
        } else if (s.wins() == 1) {
            for (int need : s.needs) {
                if (s.no.contains(need)) {
                    set.add(need);
                }
            }
            for (int but : s.buts) {
                if (s.yes.contains(but)) {
                    set.add(but);
                }
            }
            if (set.size() != 1 && each == 0) {
                set.clear();
            }
        }
        return set;
    }

    Set<Integer> settled(int suit) {
        Set<Integer> set = necessary(suit);
        set.removeAll(suits.get(suit).untried);
        if (suits.get(suit).reversed) {
            set.clear();
        }
        return set;
    }

    boolean carries(int link, int day) {
        Link l = links.get(link);
        return l.ruler ? day >= l.from && day <= l.to : l.from >= day;
    }

    boolean bound(int suit, int side, int person) {
        Suit s = suits.get(suit);
        Set<Integer> reached = new HashSet<>();
        if (s.judged) {
            reached.add(side == 0 ? s.plaintiff : s.defendant);
        }
        boolean more = s.judged;
        while (more) {
            more = false;
            for (int i = 0; i < links.size(); i++) {
                more |= reached.contains(links.get(i).p) && carries(i, s.day) && reached.add(links.get(i).q);
            }
        }
        return reached.contains(person);
    }

    /** The chain, by trying all of one length ahead of all that are longer. */
    List<Integer> chain(int suit, int side, int person) {
        Suit s = suits.get(suit);
        if (!s.judged) {
            return null;
        }
        for (int length = 0; length < names.size(); length++) {
            List<Integer> found = chainOf(side == 0 ? s.plaintiff : s.defendant, person, length, s.day, new HashSet<>());
            if (found != null) {
                return found;
            }
        }
        return null;
    }

    private List<Integer> chainOf(int from, int person, int length, int day, Set<Integer> passed) {
        if (length == 0) {
            return from == person ? new ArrayList<>() : null;
        }
        passed.add(from);
        for (int i = 0; i < links.size(); i++) {
            if (links.get(i).p == from && carries(i, day) && !passed.contains(links.get(i).q)) {
                List<Integer> rest = chainOf(links.get(i).q, person, length - 1, day, passed);
                if (rest != null) {
                    rest.add(0, i);
                    passed.remove(from);
                    return rest;
                }
            }
        }
        passed.remove(from);
        return null;
    }

    boolean behind(int b, int a) {
        Suit judged = suits.get(a);
        return a != b && judged.judged && !judged.reversed && suits.get(b).filed >= judged.day;
    }

    boolean same(int a, int b) {
        Set<Integer> both = new TreeSet<>(suits.get(a).facts);
        both.retainAll(suits.get(b).facts);
        int fewer = Math.min(suits.get(a).facts.size(), suits.get(b).facts.size());
        return !both.isEmpty() && both.size() * 100 >= share * fewer;
    }

    boolean barredBy(int b, int a) {
        if (!behind(b, a) || !suits.get(a).merits || !same(a, b)) {
            return false;
        }
        int p = suits.get(b).plaintiff;
        int d = suits.get(b).defendant;
        return bound(a, 0, p) && bound(a, 1, d) || mutual == 2 && bound(a, 1, p) && bound(a, 0, d);
    }

    int barred(int b) {
        int bits = 0;
        for (int a = 0; a < suits.size(); a++) {
            bits |= barredBy(b, a) ? 1 << a : 0;
        }
        return bits;
    }

    boolean heldBy(int b, int issue, int a) {
        if (!behind(b, a) || !settled(a).contains(issue)) {
            return false;
        }
        Suit s = suits.get(b);
        boolean yes = suits.get(a).yes.contains(issue);
        boolean need = s.needs.contains(issue);
        boolean againstDefendant = need && yes || !need && !yes;
        int loser = againstDefendant ? s.defendant : s.plaintiff;
        int other = againstDefendant ? s.plaintiff : s.defendant;
        for (int side = 0; side < 2; side++) {
            if (!bound(a, side, loser)) {
                continue;
            }
            if (mutual == 2 || bound(a, 1 - side, other) || mutual == 1 && loser == s.plaintiff) {
                return true;
            }
        }
        return false;
    }

    int holders(int b, int issue) {
        int n = 0;
        for (int a = 0; a < suits.size(); a++) {
            n += heldBy(b, issue, a) ? 1 : 0;
        }
        return n;
    }

    int holder(int b, int issue) {
        int best = -1;
        for (int a = 0; a < suits.size(); a++) {
            if (heldBy(b, issue, a) && (best < 0 || suits.get(a).day * 100 + a > suits.get(best).day * 100 + best)) {
                best = a;
            }
        }
        return best;
    }

    /** 1, 0, -1. */
    int heldHow(int b, int issue) {
        int a = holder(b, issue);
        return a < 0 ? -1 : suits.get(a).yes.contains(issue) ? 1 : 0;
    }

    Set<Integer> held(int b) {
        Set<Integer> set = new TreeSet<>();
        for (int issue : suits.get(b).issues()) {
            if (holder(b, issue) >= 0) {
                set.add(issue);
            }
        }
        return set;
    }

    int forced(int b) {
        if (barred(b) != 0) {
            return 2;
        }
        boolean all = true;
        for (int need : suits.get(b).needs) {
            if (heldHow(b, need) == 0) {
                return 1;
            }
            all &= heldHow(b, need) == 1;
        }
        for (int but : suits.get(b).buts) {
            if (heldHow(b, but) == 1) {
                return 1;
            }
            all &= heldHow(b, but) == 0;
        }
        return all ? 0 : -1;
    }

    String said(int b) {
        StringBuilder text = new StringBuilder();
        for (int issue : held(b)) {
            text.append(text.length() == 0 ? "" : ",").append(issue).append(heldHow(b, issue) == 1 ? "y" : "n");
            text.append("@").append(holder(b, issue));
        }
        return forced(b) < 0 ? text.toString() : text + "!" + forced(b);
    }

    boolean boundAtAll(int suit, int person) {
        return bound(suit, 0, person) || bound(suit, 1, person);
    }

    int clash(int a, int b) {
        Suit one = suits.get(a);
        Suit two = suits.get(b);
        boolean meet = false;
        for (int person = 0; person < names.size(); person++) {
            meet |= boundAtAll(a, person) && boundAtAll(b, person);
        }
        if (!meet) {
            return -1;
        }
        for (int issue : settled(a)) {
            if (settled(b).contains(issue) && one.yes.contains(issue) != two.yes.contains(issue)) {
                return issue;
            }
        }
        return -1;
    }

    int clashes() {
        int n = 0;
        for (int a = 0; a < suits.size(); a++) {
            for (int b = a + 1; b < suits.size(); b++) {
                n += clash(a, b) >= 0 ? 1 : 0;
            }
        }
        return n;
    }

    boolean standsOn(int b, int a) {
        Suit s = suits.get(b);
        if (!s.judged || s.reversed) {
            return false;
        }
        for (int issue : s.issues()) {
            boolean alike = s.yes.contains(issue) && heldHow(b, issue) == 1 || s.no.contains(issue) && heldHow(b, issue) == 0;
            if (alike && holder(b, issue) == a) {
                return true;
            }
        }
        return false;
    }

    int latest(int person) {
        int best = -1;
        for (int a = 0; a < suits.size(); a++) {
            Suit s = suits.get(a);
            if (s.judged && !s.reversed && boundAtAll(a, person) && (best < 0 || s.day >= suits.get(best).day)) {
                best = a;
            }
        }
        return best;
    }

    int goes(int a, int what) {
        Suit s = suits.get(a);
        if (!s.judged || s.reversed) {
            return 0;
        }
        Model without = copy();
        without.suits.get(a).reversed = true;
        Set<Integer> going = new TreeSet<>();
        for (int b = 0; b < suits.size(); b++) {
            boolean goes = what == 0 ? barred(b) != 0 && without.barred(b) == 0
                    : what == 1 ? without.held(b).size() < held(b).size()
                    : what == 2 ? without.forced(b) != forced(b)
                    : standsOn(b, a);
            if (goes) {
                going.add(b);
            }
        }
        boolean more = what == 4;
        while (more) {
            more = false;
            for (int b = 0; b < suits.size(); b++) {
                for (int c : new ArrayList<>(going)) {
                    more |= standsOn(b, c) && going.add(b);
                }
            }
        }
        return bits(going);
    }

    int would(int sides, int day, int facts, int needs, int buts, int what) {
        Model told = copy();
        Suit s = new Suit();
        s.plaintiff = sides / 12;
        s.defendant = sides % 12;
        s.filed = day;
        s.facts = setOf(facts);
        s.needs = setOf(needs);
        s.buts = setOf(buts);
        told.suits.add(s);
        int b = told.suits.size() - 1;
        return what == 0 ? told.barred(b) : what == 1 ? bits(told.held(b)) : told.forced(b);
    }

    /** Behind the last judgment one day is like another: those days are tried at once. */
    int freeTill(int suit) {
        Model told = copy();
        told.suits.get(suit).filed = 9999;
        if (told.barred(suit) == 0) {
            return 9999;
        }
        int last = 0;
        for (Suit s : suits) {
            last = Math.max(last, s.day);
        }
        for (int day = last; day >= 0; day--) {
            told.suits.get(suit).filed = day;
            if (told.barred(suit) == 0) {
                return day;
            }
        }
        return -1;
    }

    int against(int issue) {
        int bits = 0;
        for (int a = 0; a < suits.size(); a++) {
            for (int person = 0; person < names.size(); person++) {
                if (settled(a).contains(issue) && boundAtAll(a, person)) {
                    bits |= 1 << person;
                }
            }
        }
        return bits;
    }

    // Questions: a tree of nodes, asked of each suit.

    interface Node {
        boolean holds(int suit);
    }

    interface Value {
        int of(int suit);
    }

    private int open;

    int ask(byte[] text) {
        row = tokens(text);
        at = 0;
        open = 0;
        boolean many = here().is("many");
        if (!many && !here().is("first")) {
            throw faultHere(1);
        }
        at++;
        Node test = test();
        if (here().kind != 'e') {
            throw faultHere(1);
        }
        int n = 0;
        for (int suit = 0; suit < suits.size(); suit++) {
            if (test.holds(suit)) {
                if (!many) {
                    return suit;
                }
                n++;
            }
        }
        return many ? n : -1;
    }

    private Node test() {
        Node first = both();
        while (here().is("or")) {
            at++;
            Node left = first;
            Node right = both();
            first = suit -> left.holds(suit) || right.holds(suit);
        }
        return first;
    }

    private Node both() {
        Node first = fact();
        while (here().is("and")) {
            at++;
            Node left = first;
            Node right = fact();
            first = suit -> left.holds(suit) && right.holds(suit);
        }
        return first;
    }

    private Node fact() {
        if (here().is("not") || here().is("{")) {
            boolean not = here().is("not");
            open++;
            if (open == 7) {
                throw faultHere(3);
            }
            at++;
            Node inner = not ? fact() : test();
            if (!not) {
                if (!here().is("}")) {
                    throw faultHere(1);
                }
                at++;
            }
            open--;
            return not ? suit -> !inner.holds(suit) : inner;
        }
        Value left = value();
        String sign = here().text;
        if (!sign.equals("<") && !sign.equals("=") && !sign.equals(">")) {
            throw faultHere(1);
        }
        at++;
        Value right = value();
        return suit -> {
            int order = Integer.compare(left.of(suit), right.of(suit));
            return sign.equals("<") ? order < 0 : sign.equals("=") ? order == 0 : order > 0;
        };
    }

    private Value value() {
        Token t = here();
        if (t.kind == 'n') {
            int n = number(0, 9999);
            return suit -> n;
        }
        if (!List.of("suit", "plaintiff", "defendant", "filed", "day", "wins", "barred", "held", "open", "forced").contains(t.text)) {
            throw faultHere(1);
        }
        at++;
        return suit -> valueOf(t.text, suit);
    }

    private int valueOf(String word, int suit) {
        Suit s = suits.get(suit);
        switch (word) {
            case "suit": return suit;
            case "plaintiff": return s.plaintiff;
            case "defendant": return s.defendant;
            case "filed": return s.filed;
            case "day": return s.judged ? s.day : -1;
            case "wins": return s.reversed ? -1 : s.wins();
            case "barred": return Integer.bitCount(barred(suit));
            case "held": return held(suit).size();
            case "open": return s.issues().size() - held(suit).size();
            default: return forced(suit);
        }
    }
}
