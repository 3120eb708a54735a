import java.lang.reflect.Method;
import java.util.ArrayList;
import java.util.List;
import java.util.Random;

/**
 * Runs of calls that a fixed row of numbers draws, made on the class and on PlainNotes side by side. The papers use few
 * letters, volumes and pages, so that cases join, names clash and references are ambiguous often.
 */
public final class RandomRunsTest {
    private static final String[] CALLS = {
        "reference", "put", "cut", "move", "respell", "undo", "found", "aCase", "table", "shorter", "print", "judge",
        "see", "unsee", "which", "share", "lost", "seed", "drawn", "keep", "again", "count", "fault", "write",
        "found", "shorter", "move", "move", "respell", "respell", "put", "judge", "which", "see", "count", "aCase"};

    private final Random random;
    private final int letters;
    private final PointingNotes notes = new PointingNotes();
    private final PlainNotes plain = new PlainNotes();
    private final List<String> told = new ArrayList<>();
    private final int number;

    private RandomRunsTest(int number) {
        this.number = number;
        random = new Random(number * 7919L);
        letters = 2 + random.nextInt(5);
    }

    public static void main(String[] args) {
        int runs = args.length > 0 ? Integer.parseInt(args[0]) : 400;
        int first = args.length > 1 ? Integer.parseInt(args[1]) : 0;
        int wrong = 0;
        for (int number = first; number < first + runs && wrong < 5; number++) {
            boolean right = number % 4 == 0 ? new RandomRunsTest(number).survey() : new RandomRunsTest(number).run();
            Run.that("random run " + number, right);
            if (!right) wrong++;
        }
        Run.end("RandomRunsTest");
    }

    private boolean run() {
        for (int left = 511; left > 130; ) {
            int before = told.size();
            boolean right = random.nextInt(12) == 0 ? newText() : call(CALLS[random.nextInt(CALLS.length)]);
            if (!right) return false;
            left -= told.size() - before;
        }
        return true;
    }

    /** Asks everything that can be asked of a paper, some 500 calls in all. */
    private boolean survey() {
        String text = paperText(8);
        for (int i = 0; i < text.length() && i < 120; i++) if (!same("write", text.charAt(i))) return false;
        if (!same("fault") || !same("paper")) return false;
        for (int note = 0; note < plain.count(1); note++) {
            for (int reference = 0; reference <= 4; reference++) if (!surveyReference(note, reference)) return false;
        }
        for (int number = 0; number <= plain.count(3); number++) {
            if (!same("table", number)) return false;
            for (int what = 0; what <= 7; what++) if (!same("aCase", number, what)) return false;
        }
        for (int what = 0; what <= 8; what++) if (!same("count", what)) return false;
        for (int place = -1; told.size() < 480 && plain.print(1, place) != -9; place++) if (!same("print", 1, place)) return false;
        for (int note = 0; note < plain.count(1); note++) if (!same("share", note, true)) return false;
        return same("lost", random.nextInt(11), true) && same("lost", random.nextInt(11), false) && same("drawn", 20);
    }

    private boolean surveyReference(int note, int reference) {
        if (plain.reference(note, reference, 0) < 0) return true;
        for (int what = 0; what <= 2; what++) {
            if (!same("reference", note, reference, what) || !same("found", note, reference, what)) return false;
        }
        return same("shorter", note, reference, 0) && same("shorter", note, reference, 1);
    }

    /** Writes a text; mostly a paper, sometimes one note, sometimes with a fault; then maybe reads or puts it. */
    private boolean newText() {
        int most = random.nextInt(3) == 0 ? 1 : 1 + random.nextInt(9);
        StringBuilder text = new StringBuilder(paperText(most));
        if (random.nextInt(4) == 0 && text.length() > 0) spoil(text);
        if (!same("wipe")) return false;
        for (int i = 0; i < text.length() && i < 125; i++) if (!same("write", text.charAt(i))) return false;
        if (!same("fault")) return false;
        return random.nextInt(3) > 0 ? same("paper") : call("put");
    }

    private void spoil(StringBuilder text) {
        int place = random.nextInt(text.length());
        String signs = "ABFGai0129rst@=,;x";
        char sign = signs.charAt(random.nextInt(signs.length()));
        switch (random.nextInt(3)) {
            case 0: text.setCharAt(place, sign); break;
            case 1: text.insert(place, sign); break;
            default: text.setLength(place); break;
        }
    }

    private String paperText(int most) {
        StringBuilder text = new StringBuilder();
        for (int note = 0; note < most; note++) {
            if (note > 0) text.append(';');
            int references = random.nextInt(2) == 0 ? 1 : 1 + random.nextInt(random.nextInt(8) == 0 ? 5 : 4);
            for (int i = 0; i < references; i++) text.append(i > 0 ? "," : "").append(referenceText());
            if (text.length() > 100) break;
        }
        return text.toString();
    }

    private String referenceText() {
        String pin = random.nextInt(3) == 0 ? "@" + pageText() : "";
        switch (random.nextInt(6)) {
            case 0: return letter() + pin;
            case 1: return "i" + pin;
            case 2: return "a" + random.nextInt(random.nextInt(5) == 0 ? 10 : 4) + letter() + pin;
            default: return fullText() + pin;
        }
    }

    private String fullText() {
        String first = letter();
        String second = letter();
        while (second.equals(first)) second = letter();
        boolean r = random.nextBoolean();
        String report = report(r ? 'r' : 's');
        return first + second + report + (random.nextInt(3) == 0 ? "=" + report(r ? 's' : 'r') : "");
    }

    private String report(char series) {
        return (random.nextInt(8) == 0 ? 9 : 1 + random.nextInt(2)) + "" + series + pageText();
    }

    private String pageText() {
        String[] pages = {"01", "05", "10", "20", "99"};
        return pages[random.nextInt(pages.length)];
    }

    private String letter() {
        return "" + (char) ('A' + random.nextInt(letters));
    }

    private boolean call(String name) {
        switch (name) {
            case "reference": case "found": return ofReference(name, 2);
            case "respell": case "shorter": return ofReference(name, 1);
            case "put": return same(name, small(plain.count(1)), small(1));
            case "cut": return same(name, note(), small(1));
            case "move": return same(name, note(), note(), small(1));
            case "aCase": return same(name, small(Math.max(0, plain.count(3) - 1)), small(6));
            case "table": return same(name, small(Math.max(0, plain.count(3) - 1)));
            case "print": return printed();
            case "judge": return judged();
            case "see": return same(name, small(4), random.nextInt(3) == 0 ? small(9) : random.nextInt(4), small(1));
            case "which": case "keep": case "again": return same(name, small(1));
            case "share": return random.nextInt(4) > 0 || shared();
            case "lost": return random.nextInt(4) > 0 || lossesAgree();
            case "seed": return same(name, random.nextLong());
            case "drawn": return same(name, small(20));
            case "count": return same(name, small(7));
            case "write": return same(name, random.nextInt(3) == 0 ? random.nextInt(600) - 100 : "A;,i".charAt(random.nextInt(4)));
            default: return same(name);
        }
    }

    private boolean printed() {
        int how = small(1);
        if (!same("print", how, -1)) return false;
        return same("print", how, small(90)) && same("print", how, random.nextInt(60)) && same("print", how, random.nextInt(30));
    }

    private boolean shared() {
        int note = note();
        return same("share", note, true) && same("share", note, false);
    }

    private boolean lossesAgree() {
        int x = small(10);
        return same("lost", x, true) && same("lost", x, false);
    }

    private boolean judged() {
        int n = random.nextInt(8) == 0 ? random.nextInt(6) : 1 + random.nextInt(4);
        long row = 0;
        for (int i = 0; i < n; i++) row = 10000 * row + act();
        if (random.nextInt(30) == 0) row = -row;
        if (random.nextInt(30) == 0) row = row * 10 + 1;
        return same("judge", n, row);
    }

    private int act() {
        int note = random.nextInt(random.nextInt(8) == 0 ? 10 : 1 + plain.count(1));
        switch (random.nextInt(8)) {
            case 0: return 1000 + 100 * note + 10 * random.nextInt(5) + random.nextInt(2);
            case 1: return 2000 + 100 * note + 10 * random.nextInt(2);
            case 2: return 3000 + 100 * note + 10 * random.nextInt(2) + (random.nextInt(3) == 0 ? 9 : random.nextInt(3));
            case 3: return 4000 + 100 * note + 10 * random.nextInt(2) + (random.nextInt(2) == 0 ? 0 : random.nextInt(7));
            case 4: return 5000 + random.nextInt(random.nextInt(5) == 0 ? 999 : 12);
            case 5: case 6: return 6000 + 100 * note + 10 * random.nextInt(2);
            default: return random.nextInt(10000);
        }
    }

    private boolean ofReference(String name, int mostWhat) {
        int note = note();
        int references = 1;
        while (references < 4 && plain.reference(note, references, 0) >= 0) references++;
        return same(name, note, small(references - 1), small(mostWhat));
    }

    private int note() {
        return small(Math.max(0, plain.count(1) - 1));
    }

    /** A number from 0 to most, now and then one outside. */
    private int small(int most) {
        int draw = random.nextInt(40);
        if (draw == 0) return -1;
        if (draw == 1) return most + 1;
        if (draw == 2) return random.nextInt();
        return random.nextInt(most + 1);
    }

    private boolean same(String name, Object... arguments) {
        String[] texts = new String[arguments.length];
        for (int i = 0; i < texts.length; i++) {
            texts[i] = arguments[i] instanceof Character sign ? Integer.toString(sign) : arguments[i].toString();
        }
        long got = Run.invoke(notes, name, texts);
        long due = Run.invoke(plain, name, texts);
        told.add(name + "(" + String.join(", ", texts) + ") = " + got);
        if (got == due) return true;
        System.out.println("random run " + number + ", last call: due is " + due);
        for (String line : told) System.out.println("  " + line);
        return false;
    }

    static {
        // every public method is drawn, or else a promise would go without its runs
        for (Method method : PointingNotes.class.getDeclaredMethods()) {
            boolean open = java.lang.reflect.Modifier.isPublic(method.getModifiers());
            boolean drawn = List.of("wipe", "paper").contains(method.getName()) || List.of(CALLS).contains(method.getName());
            Run.that("drawing " + method.getName(), !open || drawn);
        }
    }
}
