import java.math.BigInteger;
import java.util.ArrayList;
import java.util.HashMap;
import java.util.List;
import java.util.Map;
import java.util.Set;
import java.util.TreeSet;
import java.util.regex.Matcher;
import java.util.regex.Pattern;

/**
 * The document once more, as plainly as it can be said and with no thought of speed: references are strings, cases are
 * sets of places, shorter forms are tried by writing them into the paper. RandomRunsTest compares the class with it.
 */
final class PlainNotes {
    static final int UNKNOWN = -1, OUTSIDE = -2, STATE = -3, FULL = -4, NONE = -9;
    private static final Pattern PAPER = Pattern.compile(paperPattern());

    /** Where a reference stands. */
    record Place(int note, int reference) implements Comparable<Place> {
        public int compareTo(Place other) {
            return note != other.note ? Integer.compare(note, other.note) : Integer.compare(reference, other.reference);
        }
    }

    /** What a reference finds: a case, or -1 and the reason. */
    record Finding(int number, int reason) {
    }

    private final StringBuilder text = new StringBuilder();
    private List<List<String>> paper = new ArrayList<>();
    private final List<List<List<String>>> past = new ArrayList<>();
    private final List<List<List<String>>> slots = new ArrayList<>(List.of(List.of(), List.of()));
    private final boolean[] kept = new boolean[2];
    private final List<int[]> observations = new ArrayList<>();
    private long seed = 0;

    private static String paperPattern() {
        String page = "(?:0[1-9]|[1-9][0-9])";
        String r = "[1-9]r" + page;
        String s = "[1-9]s" + page;
        String name = "(?:A[BCDEF]|B[ACDEF]|C[ABDEF]|D[ABCEF]|E[ABCDF]|F[ABCDE])";
        String full = name + "(?:" + r + "|" + s + "|" + r + "=" + s + "|" + s + "=" + r + ")";
        String reference = "(?:" + full + "|[A-F]|i|a[0-9][A-F])(?:@" + page + ")?";
        String note = reference + "(?:," + reference + "){0,3}";
        return "(?:" + note + "(?:;" + note + "){0,7})?";
    }

    // ---- the text

    int write(int letter) {
        if (letter < 0 || letter > 255) return OUTSIDE;
        if (text.length() == 120) return FULL;
        text.append((char) letter);
        return text.length();
    }

    int wipe() {
        int length = text.length();
        text.setLength(0);
        return length;
    }

    int fault() {
        for (int end = 1; end <= text.length(); end++) {
            Matcher matcher = PAPER.matcher(text.substring(0, end));
            if (!matcher.matches() && !matcher.hitEnd()) return end - 1;
        }
        return PAPER.matcher(text).matches() ? NONE : text.length();
    }

    private static List<List<String>> split(String text) {
        List<List<String>> notes = new ArrayList<>();
        if (text.isEmpty()) return notes;
        for (String note : text.split(";")) notes.add(new ArrayList<>(List.of(note.split(","))));
        return notes;
    }

    private static List<List<String>> copy(List<List<String>> notes) {
        List<List<String>> copied = new ArrayList<>();
        for (List<String> note : notes) copied.add(new ArrayList<>(note));
        return copied;
    }

    int paper() {
        if (fault() != NONE) return STATE;
        paper = split(text.toString());
        past.clear();
        kept[0] = false;
        kept[1] = false;
        return paper.size();
    }

    // ---- references as strings

    private static String body(String reference) {
        int at = reference.indexOf('@');
        return at < 0 ? reference : reference.substring(0, at);
    }

    private static String pinText(String reference) {
        int at = reference.indexOf('@');
        return at < 0 ? "" : reference.substring(at);
    }

    private static int form(String reference) {
        String body = body(reference);
        if (body.equals("i")) return 2;
        if (body.startsWith("a")) return 3;
        return body.length() == 1 ? 1 : 0;
    }

    private static List<String> reports(String full) {
        return List.of(body(full).substring(2).split("="));
    }

    private static int volume(String report) {
        return report.charAt(0) - '0';
    }

    private static int page(String report) {
        return Integer.parseInt(report.substring(2));
    }

    private boolean missing(int note, int reference) {
        return note < 0 || note >= paper.size() || reference < 0 || reference >= paper.get(note).size();
    }

    int reference(int note, int reference, int what) {
        if (missing(note, reference)) return UNKNOWN;
        if (what < 0 || what > 2) return OUTSIDE;
        String text = paper.get(note).get(reference);
        if (what == 0) return form(text);
        if (what == 1) return pinText(text).isEmpty() ? NONE : Integer.parseInt(pinText(text).substring(1));
        return form(text) == 3 ? text.charAt(1) - '0' : NONE;
    }

    // ---- cases and findings of a paper of which some notes are present

    private static Set<Integer> all(List<List<String>> notes) {
        Set<Integer> present = new TreeSet<>();
        for (int note = 0; note < notes.size(); note++) present.add(note);
        return present;
    }

    private static List<Place> fulls(List<List<String>> notes, Set<Integer> present) {
        List<Place> fulls = new ArrayList<>();
        for (int note : present) {
            for (int reference = 0; reference < notes.get(note).size(); reference++) {
                if (form(notes.get(note).get(reference)) == 0) fulls.add(new Place(note, reference));
            }
        }
        return fulls;
    }

    private static String at(List<List<String>> notes, Place place) {
        return notes.get(place.note).get(place.reference);
    }

    /** The cases in their order, each with the places of its full references in their order. */
    private static List<TreeSet<Place>> cases(List<List<String>> notes, Set<Integer> present) {
        List<TreeSet<Place>> cases = new ArrayList<>();
        Set<Place> open = new TreeSet<>(fulls(notes, present));
        while (!open.isEmpty()) {
            TreeSet<Place> joined = new TreeSet<>();
            join(notes, open.iterator().next(), open, joined);
            cases.add(joined);
        }
        return cases;
    }

    private static void join(List<List<String>> notes, Place place, Set<Place> open, Set<Place> joined) {
        open.remove(place);
        joined.add(place);
        for (Place other : new ArrayList<>(open)) {
            boolean common = reports(at(notes, place)).stream().anyMatch(reports(at(notes, other))::contains);
            if (common && open.contains(other)) join(notes, other, open, joined);
        }
    }

    private static String nameOf(List<List<String>> notes, TreeSet<Place> aCase) {
        return at(notes, aCase.first()).substring(0, 2);
    }

    private static Finding only(Set<Integer> candidates) {
        if (candidates.isEmpty()) return new Finding(-1, 1);
        return candidates.size() > 1 ? new Finding(-1, 2) : new Finding(candidates.iterator().next(), 0);
    }

    /** A paper of which some notes are present; what a reference finds is sought by following it back. */
    private static final class Part {
        final List<List<String>> notes;
        final Set<Integer> present;
        final List<TreeSet<Place>> cases;
        final Map<Place, Finding> known = new HashMap<>();

        Part(List<List<String>> notes, Set<Integer> present) {
            this.notes = notes;
            this.present = present;
            cases = cases(notes, present);
        }

        Finding find(Place place) {
            Finding finding = known.get(place);
            if (finding == null) {
                finding = seek(place, at(notes, place));
                known.put(place, finding);
            }
            return finding;
        }

        private Finding seek(Place place, String text) {
            switch (form(text)) {
                case 0: return seekFull(place);
                case 1: return seekShort(place, text.charAt(0));
                case 2: return seekSame(place);
                default: return seekAbove(place, text.charAt(1) - '0', text.charAt(2));
            }
        }

        private Finding seekFull(Place place) {
            for (int number = 0; number < cases.size(); number++) {
                if (cases.get(number).contains(place)) return new Finding(number, 0);
            }
            throw new IllegalStateException("a full reference without a case");
        }

        private Finding seekShort(Place place, char letter) {
            Set<Integer> candidates = new TreeSet<>();
            for (int number = 0; number < cases.size(); number++) {
                boolean before = cases.get(number).stream().anyMatch(full -> full.compareTo(place) < 0);
                if (before && nameOf(notes, cases.get(number)).charAt(0) == letter) candidates.add(number);
            }
            return only(candidates);
        }

        private Finding seekSame(Place place) {
            Place pointed = new Place(place.note, place.reference - 1);
            if (place.reference == 0) {
                int before = -1;
                for (int note : present) if (note < place.note) before = note;
                if (before < 0 || notes.get(before).size() > 1) return new Finding(-1, 3);
                pointed = new Place(before, 0);
            }
            Finding finding = find(pointed);
            return finding.number < 0 ? new Finding(-1, 4) : finding;
        }

        private Finding seekAbove(Place place, int above, char letter) {
            if (!present.contains(above) || above >= place.note) return new Finding(-1, 5);
            Set<Integer> candidates = new TreeSet<>();
            for (int reference = 0; reference < notes.get(above).size(); reference++) {
                int number = find(new Place(above, reference)).number;
                if (number >= 0 && nameOf(notes, cases.get(number)).charAt(0) == letter) candidates.add(number);
            }
            return only(candidates);
        }
    }

    private static List<Place> places(List<List<String>> notes, Set<Integer> present) {
        List<Place> places = new ArrayList<>();
        for (int note : present) {
            for (int reference = 0; reference < notes.get(note).size(); reference++) places.add(new Place(note, reference));
        }
        return places;
    }

    private static int finding(List<List<String>> notes, Set<Integer> present) {
        Part part = new Part(notes, present);
        int many = 0;
        for (Place place : places(notes, present)) if (part.find(place).number >= 0) many++;
        return many;
    }

    private static int dead(List<List<String>> notes, Set<Integer> present) {
        return places(notes, present).size() - finding(notes, present);
    }

    private static Finding find(List<List<String>> notes, Place place) {
        return new Part(notes, all(notes)).find(place);
    }

    private static List<TreeSet<Place>> cases(List<List<String>> notes) {
        return cases(notes, all(notes));
    }

    // ---- shorter forms

    /** Tries a spelling by writing it into the paper; the case must keep its first full reference. */
    private static boolean findsSame(List<List<String>> notes, Place place, String spelling) {
        int number = find(notes, place).number;
        Place first = cases(notes).get(number).first();
        List<List<String>> tried = copy(notes);
        tried.get(place.note).set(place.reference, spelling);
        int other = find(tried, place).number;
        return other >= 0 && cases(tried).get(other).first().equals(first);
    }

    private static boolean covered(List<List<String>> notes, Place place) {
        for (Place other : fulls(notes, all(notes))) {
            if (other.compareTo(place) >= 0) break;
            if (reports(at(notes, other)).containsAll(reports(at(notes, place)))) return true;
        }
        return false;
    }

    private static String shorterForm(List<List<String>> notes, Place place) {
        String text = at(notes, place);
        int number = find(notes, place).number;
        if (number < 0 || form(text) == 0 && !covered(notes, place)) return text;
        TreeSet<Place> aCase = cases(notes).get(number);
        String letter = nameOf(notes, aCase).substring(0, 1);
        List<String> spellings = new ArrayList<>(List.of("i", letter));
        for (int above = 0; above < notes.size(); above++) spellings.add("a" + above + letter);
        for (String spelling : spellings) {
            if (findsSame(notes, place, spelling + pinText(text))) return spelling + pinText(text);
        }
        return body(at(notes, aCase.first())) + pinText(text);
    }

    // ---- edits

    private static boolean bad(int mend) {
        return mend < 0 || mend > 1;
    }

    /** Gives every above reference the new number of the note that it names, -1 standing for no new number. */
    private static void mend(List<List<String>> notes, List<Integer> newNumbers) {
        for (List<String> note : notes) {
            for (int i = 0; i < note.size(); i++) {
                String text = note.get(i);
                if (form(text) != 3) continue;
                int named = text.charAt(1) - '0';
                if (named >= newNumbers.size() || newNumbers.get(named) < 0) continue;
                note.set(i, "a" + newNumbers.get(named) + text.substring(2));
            }
        }
    }

    /** The notes in another order or with some left out: order lists the old numbers. */
    private static List<List<String>> reordered(List<List<String>> notes, List<Integer> order, int mend) {
        List<List<String>> result = copy(notes);
        List<Integer> newNumbers = new ArrayList<>();
        for (int note = 0; note < notes.size(); note++) newNumbers.add(order.indexOf(note));
        if (mend == 1) mend(result, newNumbers);
        List<List<String>> ordered = new ArrayList<>();
        for (int old : order) ordered.add(old < 0 ? null : result.get(old));
        return ordered;
    }

    private static List<Integer> numbers(List<List<String>> notes) {
        return new ArrayList<>(all(notes));
    }

    private static List<List<String>> moved(List<List<String>> notes, int from, int to, int mend) {
        List<Integer> order = numbers(notes);
        order.remove(Integer.valueOf(from));
        order.add(to, from);
        return reordered(notes, order, mend);
    }

    private static List<List<String>> cutOut(List<List<String>> notes, int note, int mend) {
        List<Integer> order = numbers(notes);
        order.remove(Integer.valueOf(note));
        return reordered(notes, order, mend);
    }

    private void edit(List<List<String>> after) {
        past.add(paper);
        if (past.size() > 14) past.remove(0);
        paper = after;
    }

    int put(int place, int mend) {
        if (place < 0 || place > paper.size() || bad(mend)) return OUTSIDE;
        if (fault() != NONE || split(text.toString()).size() != 1) return STATE;
        if (paper.size() == 8) return FULL;
        List<Integer> order = numbers(paper);
        order.add(place, -1);
        List<List<String>> after = reordered(paper, order, mend);
        after.set(place, split(text.toString()).get(0));
        edit(after);
        return paper.size();
    }

    int cut(int note, int mend) {
        if (note < 0 || note >= paper.size()) return UNKNOWN;
        if (bad(mend)) return OUTSIDE;
        edit(cutOut(paper, note, mend));
        return paper.size();
    }

    int move(int from, int to, int mend) {
        if (from < 0 || from >= paper.size() || to < 0 || to >= paper.size()) return UNKNOWN;
        if (bad(mend)) return OUTSIDE;
        edit(moved(paper, from, to, mend));
        return dead(paper, all(paper));
    }

    int respell(int note, int reference, int how) {
        if (missing(note, reference)) return UNKNOWN;
        if (how < 0 || how > 1) return OUTSIDE;
        Place place = new Place(note, reference);
        int number = find(paper, place).number;
        if (number < 0) return STATE;
        String spelling = how == 0 ? shorterForm(paper, place)
            : body(at(paper, cases(paper).get(number).first())) + pinText(at(paper, place));
        List<List<String>> after = copy(paper);
        after.get(note).set(reference, spelling);
        edit(after);
        return form(spelling);
    }

    int undo() {
        if (past.isEmpty()) return STATE;
        paper = past.remove(past.size() - 1);
        return past.size();
    }

    // ---- what is found

    int found(int note, int reference, int what) {
        if (missing(note, reference)) return UNKNOWN;
        if (what < 0 || what > 2) return OUTSIDE;
        Finding finding = find(paper, new Place(note, reference));
        if (what == 0) return finding.number < 0 ? NONE : finding.number;
        if (what == 1) return finding.reason;
        return pinState(paper.get(note).get(reference), finding.number);
    }

    private int pinState(String text, int number) {
        if (number < 0) return 4;
        if (pinText(text).isEmpty()) return 1;
        int pin = Integer.parseInt(pinText(text).substring(1));
        TreeSet<Place> own = cases(paper).get(number);
        String first = reports(at(paper, own.first())).get(0);
        if (pin < page(first)) return 2;
        for (Place full : fulls(paper, all(paper))) {
            if (own.contains(full)) continue;
            for (String report : reports(at(paper, full))) {
                boolean sameBook = report.substring(0, 2).equals(first.substring(0, 2));
                if (sameBook && page(report) > page(first) && page(report) <= pin) return 3;
            }
        }
        return 0;
    }

    private Set<String> allReports(TreeSet<Place> aCase) {
        Set<String> reports = new TreeSet<>();
        for (Place place : aCase) reports.addAll(reports(at(paper, place)));
        return reports;
    }

    private boolean clashes(TreeSet<Place> aCase) {
        return aCase.stream().map(place -> at(paper, place).substring(0, 2)).distinct().count() > 1;
    }

    int aCase(int number, int what) {
        List<TreeSet<Place>> cases = cases(paper);
        if (number < 0 || number >= cases.size()) return UNKNOWN;
        if (what < 0 || what > 6) return OUTSIDE;
        TreeSet<Place> own = cases.get(number);
        String first = reports(at(paper, own.first())).get(0);
        if (what < 2) return nameOf(paper, own).charAt(what) - 'A';
        if (what == 2) return 1000 * volume(first) + (first.charAt(1) == 's' ? 100 : 0) + page(first);
        if (what == 3) return allReports(own).size();
        if (what == 4) return clashes(own) ? 1 : 0;
        int set = 0;
        int many = 0;
        for (Place place : places(paper, all(paper))) {
            if (find(paper, place).number != number) continue;
            many++;
            set |= 1 << place.note;
        }
        return what == 5 ? set : many;
    }

    int table(int place) {
        List<TreeSet<Place>> cases = cases(paper);
        List<String> keys = new ArrayList<>();
        for (TreeSet<Place> own : cases) {
            String first = reports(at(paper, own.first())).get(0);
            keys.add(nameOf(paper, own) + first.charAt(1) + first.charAt(0) + first.substring(2));
        }
        List<String> sorted = keys.stream().sorted().toList();
        return place < 0 || place >= sorted.size() ? UNKNOWN : keys.indexOf(sorted.get(place));
    }

    int shorter(int note, int reference, int what) {
        if (missing(note, reference)) return UNKNOWN;
        if (what < 0 || what > 1) return OUTSIDE;
        String spelling = shorterForm(paper, new Place(note, reference));
        return what == 0 ? form(spelling) : spelling.length();
    }

    int print(int how, int place) {
        if (how < 0 || how > 1 || place < -1) return OUTSIDE;
        List<List<String>> printed = copy(paper);
        for (Place at : places(paper, all(paper))) {
            if (how == 1) printed.get(at.note).set(at.reference, shorterForm(paper, at));
        }
        List<String> notes = new ArrayList<>();
        for (List<String> note : printed) notes.add(String.join(",", note));
        String text = String.join(";", notes);
        if (place == -1) return text.length();
        return place < text.length() ? text.charAt(place) : NONE;
    }

    // ---- acts

    int judge(int n, long row) {
        if (n < 1 || n > 4 || row < 0 || Long.toString(row).length() > 4 * n) return OUTSIDE;
        String digits = String.format("%0" + 4 * n + "d", row);
        List<List<String>> notes = copy(paper);
        for (int i = 0; i < n; i++) {
            notes = act(notes, digits.substring(4 * i, 4 * i + 4));
            if (notes == null) return i;
        }
        return NONE;
    }

    /** The notes after an act, or null if it is impossible or not true. */
    private static List<List<String>> act(List<List<String>> notes, String digits) {
        int a = digits.charAt(1) - '0';
        int b = digits.charAt(2) - '0';
        int c = digits.charAt(3) - '0';
        int n = notes.size();
        boolean exists = a < n && b < notes.get(a).size();
        switch (digits.charAt(0)) {
            case '1': return a < n && b < n && c < 2 ? moved(notes, a, b, c) : null;
            case '2': return a < n && b < 2 && c == 0 ? cutOut(notes, a, b) : null;
            case '3': return exists && find(notes, new Place(a, b)).number == (c == 9 ? -1 : c) ? notes : null;
            case '4': return exists && find(notes, new Place(a, b)).reason == c ? notes : null;
            case '5': return a == 0 && finding(notes, all(notes)) >= 10 * b + c ? notes : null;
            case '6': {
                if (!exists || c != 0 || find(notes, new Place(a, b)).number < 0) return null;
                List<List<String>> after = copy(notes);
                after.get(a).set(b, shorterForm(notes, new Place(a, b)));
                return after;
            }
            default: return null;
        }
    }

    // ---- observations

    int see(int what, int v, int was) {
        if (what < 0 || what > 4 || v < 0 || v > 9 || was < 0 || was > 1) return OUTSIDE;
        if (observations.size() == 6) return FULL;
        observations.add(new int[] {what, v, was});
        return observations.size();
    }

    int unsee() {
        int size = observations.size();
        observations.clear();
        return size;
    }

    int which(int what) {
        if (what < 0 || what > 1) return OUTSIDE;
        List<Integer> possible = new ArrayList<>();
        for (int number = 0; number < cases(paper).size(); number++) {
            boolean right = true;
            for (int[] seen : observations) right &= says(number, seen[0], seen[1]) == (seen[2] == 1);
            if (right) possible.add(number);
        }
        if (what == 0) return possible.size();
        return possible.isEmpty() ? NONE : possible.get(0);
    }

    private boolean says(int number, int what, int v) {
        TreeSet<Place> own = cases(paper).get(number);
        switch (what) {
            case 0: return nameOf(paper, own).charAt(0) == 'A' + v;
            case 1: return nameOf(paper, own).charAt(1) == 'A' + v;
            case 2: return (aCase(number, 5) >> v & 1) == 1;
            case 3: return allReports(own).stream().anyMatch(report -> volume(report) == v);
            default: return v < 2 && allReports(own).stream().anyMatch(report -> report.charAt(1) == "rs".charAt(v));
        }
    }

    // ---- shares and probabilities

    private static int fraction(BigInteger above, BigInteger below, boolean upper) {
        BigInteger divisor = above.gcd(below);
        return (upper ? above : below).divide(divisor).intValueExact();
    }

    int share(int note, boolean upper) {
        if (note < 0 || note >= paper.size()) return UNKNOWN;
        int[] known = new int[1 << paper.size()];
        java.util.Arrays.fill(known, -1);
        long[] sumAndOrders = new long[2];
        addOrders(known, 0, note, sumAndOrders);
        return fraction(BigInteger.valueOf(sumAndOrders[0]), BigInteger.valueOf(sumAndOrders[1]), upper);
    }

    /** Goes through all orders in which the notes that are not there yet can be added. */
    private void addOrders(int[] known, int there, int wanted, long[] sumAndOrders) {
        if (there == known.length - 1) sumAndOrders[1]++;
        for (int note = 0; note < paper.size(); note++) {
            int after = there | 1 << note;
            if (after == there) continue;
            if (note == wanted) {
                long orders = 1;
                for (int left = paper.size() - Integer.bitCount(after); left > 1; left--) orders *= left;
                sumAndOrders[0] += orders * (findingIn(known, after) - findingIn(known, there));
            }
            addOrders(known, after, wanted, sumAndOrders);
        }
    }

    private int findingIn(int[] known, int there) {
        if (known[there] < 0) known[there] = finding(paper, present(there));
        return known[there];
    }

    private static Set<Integer> present(int there) {
        Set<Integer> present = new TreeSet<>();
        for (int note = 0; note < 8; note++) if ((there >> note & 1) == 1) present.add(note);
        return present;
    }

    int lost(int x, boolean upper) {
        if (x < 0 || x > 10) return OUTSIDE;
        BigInteger sum = BigInteger.ZERO;
        for (int there = 0; there < 1 << paper.size(); there++) {
            if (dead(paper, present(there)) > 0) continue;
            BigInteger weight = BigInteger.ONE;
            for (int note = 0; note < paper.size(); note++) {
                weight = weight.multiply(BigInteger.valueOf((there >> note & 1) == 1 ? 10 - x : x));
            }
            sum = sum.add(weight);
        }
        return fraction(sum, BigInteger.TEN.pow(paper.size()), upper);
    }

    long seed(long v) {
        long before = seed;
        seed = v;
        return before;
    }

    int drawn(int m) {
        if (m < 1 || m > 20) return OUTSIDE;
        List<List<String>> notes = copy(paper);
        int sum = 0;
        for (int i = 0; i < m; i++) {
            seed = BigInteger.valueOf(seed).multiply(new BigInteger("6364136223846793005"))
                .add(new BigInteger("1442695040888963407")).longValue();
            String bits = String.format("%64s", Long.toBinaryString(seed)).replace(' ', '0');
            long v = Long.parseLong(bits.substring(0, 31), 2);
            int n = notes.size();
            if (n == 0) continue;
            notes = moved(notes, (int) (v % n), (int) (v / 16 % n), (int) (v / 256 % 2));
            sum += finding(notes, all(notes));
        }
        return sum;
    }

    // ---- slots and counts

    int keep(int slot) {
        if (slot < 0 || slot > 1) return UNKNOWN;
        slots.set(slot, copy(paper));
        kept[slot] = true;
        return paper.size();
    }

    int again(int slot) {
        if (slot < 0 || slot > 1) return UNKNOWN;
        if (!kept[slot]) return STATE;
        paper = copy(slots.get(slot));
        past.clear();
        return paper.size();
    }

    int count(int what) {
        switch (what) {
            case 0: return text.length();
            case 1: return paper.size();
            case 2: return places(paper, all(paper)).size();
            case 3: return cases(paper).size();
            case 4: return dead(paper, all(paper));
            case 5: return (int) cases(paper).stream().filter(this::clashes).count();
            case 6: return past.size();
            case 7: return observations.size();
            default: return OUTSIDE;
        }
    }
}
