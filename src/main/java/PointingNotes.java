import java.util.Arrays;

/** Citations in the notes of a legal paper: see README.md and the document's promises 1 to 27. */
public final class PointingNotes {
    public static final int UNKNOWN = -1, OUTSIDE = -2, STATE = -3, FULL = -4, NONE = -9;

    private static final int MOST_NOTES = 8, MOST_IN_NOTE = 4, SLOTS = 32, LETTERS = 6;
    private static final int MOST_TEXT = 120, MOST_UNDONE = 14, MOST_SEEN = 6, KEEPERS = 2;
    private static final int MOST_ACTS = 4, MOST_DRAWN = 20, PARTS = 256, SHEET = 512;
    private static final int FORM_FULL = 0, FORM_SHORT = 1, FORM_SAME = 2, FORM_ABOVE = 3;
    private static final int ALL_NOTES = 255, SLOTS_OF_NOTE = 15, NEVER = -1;
    private static final long FAULTY = -1L;
    private static final long SEED_FACTOR = 6364136223846793005L, SEED_STEP = 1442695040888963407L;

    private final Text text = new Text();
    private final Paper parsed = new Paper();
    private final Study now = new Study();
    private final Study trial = new Study();
    private final Sheet sheet = new Sheet();
    private final Shelf past = new Shelf(MOST_UNDONE);
    private final Shelf slots = new Shelf(KEEPERS);
    private final int[] foundInPart = new int[PARTS];
    private final int[] deadInPart = new int[PARTS];
    private final int[] seenWhat = new int[MOST_SEEN];
    private final int[] seenNumber = new int[MOST_SEEN];
    private final int[] seenWas = new int[MOST_SEEN];
    private int partsVersion = NEVER;
    private int seenCount;
    private int undoable;
    private int newestPast;
    private long seedNow;

    public PointingNotes() {
    }

    // ---- the paper

    public int write(int letter) {
        if (letter < 0 || letter > 255) return OUTSIDE;
        return text.append(letter) ? text.length() : FULL;
    }

    public int wipe() {
        int had = text.length();
        text.clear();
        return had;
    }

    public int fault() {
        return text.readInto(parsed);
    }

    public int paper() {
        if (text.readInto(parsed) != NONE) return STATE;
        now.paper.copyFrom(parsed);
        slots.clear();
        undoable = 0;
        return now.paper.notes();
    }

    public int reference(int note, int reference, int what) {
        if (!now.paper.hasReference(note, reference)) return UNKNOWN;
        long cite = now.paper.cite(Paper.slotOf(note, reference));
        switch (what) {
            case 0: return Cite.form(cite);
            case 1: return Cite.pin(cite) == 0 ? NONE : Cite.pin(cite);
            case 2: return Cite.form(cite) == FORM_ABOVE ? Cite.number(cite) : NONE;
            default: return OUTSIDE;
        }
    }

    // ---- edits

    public int put(int place, int mend) {
        if (place < 0 || place > now.paper.notes() || !isMend(mend)) return OUTSIDE;
        if (text.readInto(parsed) != NONE || parsed.notes() != 1) return STATE;
        if (now.paper.notes() >= MOST_NOTES) return FULL;
        remember();
        now.paper.insertNote(place, parsed, mend);
        return now.paper.notes();
    }

    public int cut(int note, int mend) {
        if (!now.paper.hasNote(note)) return UNKNOWN;
        if (!isMend(mend)) return OUTSIDE;
        remember();
        now.paper.dropNote(note, mend);
        return now.paper.notes();
    }

    public int move(int from, int to, int mend) {
        if (!now.paper.hasNote(from) || !now.paper.hasNote(to)) return UNKNOWN;
        if (!isMend(mend)) return OUTSIDE;
        remember();
        now.paper.shiftNote(from, to, mend);
        now.study();
        return now.dead();
    }

    public int respell(int note, int reference, int how) {
        if (!now.paper.hasReference(note, reference)) return UNKNOWN;
        if (how < 0 || how > 1) return OUTSIDE;
        now.study();
        int slot = Paper.slotOf(note, reference);
        if (now.caseOf(slot) < 0) return STATE;
        long spelling = how == 0 ? now.shortened(slot) : now.lengthened(slot);
        remember();
        now.paper.replaceCite(slot, spelling);
        return Cite.form(spelling);
    }

    public int undo() {
        if (undoable <= 0) return STATE;
        past.fetch(newestPast, now.paper);
        newestPast = (newestPast + MOST_UNDONE - 1) % MOST_UNDONE;
        undoable--;
        return undoable;
    }

    /** Keeps the paper as it is before an edit; the ring lets the oldest one go. */
    private void remember() {
        newestPast = (newestPast + 1) % MOST_UNDONE;
        past.store(newestPast, now.paper);
        undoable = Math.min(undoable + 1, MOST_UNDONE);
    }

    private static boolean isMend(int mend) {
        return mend == 0 || mend == 1;
    }

    // ---- what is found

    public int found(int note, int reference, int what) {
        if (!now.paper.hasReference(note, reference)) return UNKNOWN;
        now.study();
        int slot = Paper.slotOf(note, reference);
        switch (what) {
            case 0: return now.caseOf(slot) < 0 ? NONE : now.caseOf(slot);
            case 1: return now.reasonOf(slot);
            case 2: return now.pinState(slot);
            default: return OUTSIDE;
        }
    }

    public int aCase(int number, int what) {
        now.study();
        if (number < 0 || number >= now.cases()) return UNKNOWN;
        long first = now.firstCite(number);
        switch (what) {
            case 0: return Cite.first(first);
            case 1: return Cite.second(first);
            case 2: return Cite.report(first);
            case 3: return now.reportsOf(number);
            case 4: return now.clashes(number) ? 1 : 0;
            case 5: return now.notesFinding(number);
            case 6: return now.referencesFinding(number);
            default: return OUTSIDE;
        }
    }

    public int table(int place) {
        now.study();
        for (int number = 0; number < now.cases(); number++) {
            if (now.rankOf(number) == place) return number;
        }
        return UNKNOWN;
    }

    public int shorter(int note, int reference, int what) {
        if (!now.paper.hasReference(note, reference)) return UNKNOWN;
        if (what < 0 || what > 1) return OUTSIDE;
        now.study();
        long spelling = now.shortened(Paper.slotOf(note, reference));
        return what == 0 ? Cite.form(spelling) : Cite.width(spelling);
    }

    public int print(int how, int place) {
        if (how < 0 || how > 1 || place < -1) return OUTSIDE;
        fillSheet(how);
        return place == -1 ? sheet.length() : sheet.signAt(place);
    }

    private void fillSheet(int how) {
        now.study();
        sheet.clear();
        for (int note = 0; note < now.paper.notes(); note++) {
            if (note > 0) sheet.addSign(';');
            for (int reference = 0; reference < now.paper.size(note); reference++) {
                if (reference > 0) sheet.addSign(',');
                int slot = Paper.slotOf(note, reference);
                sheet.addCite(how == 0 ? now.paper.cite(slot) : now.shortened(slot));
            }
        }
    }

    public int judge(int n, long row) {
        if (n < 1 || n > MOST_ACTS || row < 0 || actsFrom(row, n) != 0) return OUTSIDE;
        trial.paper.copyFrom(now.paper);
        for (int act = 0; act < n; act++) {
            int digits = (int) (actsFrom(row, n - 1 - act) % 10000);
            if (!trial.perform(digits)) return act;
        }
        return NONE;
    }

    /** The row without its last acts. */
    private static long actsFrom(long row, int without) {
        long rest = row;
        for (int act = 0; act < without; act++) rest /= 10000;
        return rest;
    }

    // ---- observations

    public int see(int what, int v, int was) {
        if (what < 0 || what > 4 || v < 0 || v > 9 || was < 0 || was > 1) return OUTSIDE;
        if (seenCount >= MOST_SEEN) return FULL;
        seenWhat[seenCount] = what;
        seenNumber[seenCount] = v;
        seenWas[seenCount] = was;
        seenCount++;
        return seenCount;
    }

    public int unsee() {
        int had = seenCount;
        seenCount = 0;
        return had;
    }

    public int which(int what) {
        if (what < 0 || what > 1) return OUTSIDE;
        now.study();
        int many = 0;
        int lowest = NONE;
        for (int number = now.cases() - 1; number >= 0; number--) {
            if (!isPossible(number)) continue;
            many++;
            lowest = number;
        }
        return what == 0 ? many : lowest;
    }

    private boolean isPossible(int number) {
        for (int seen = 0; seen < seenCount && seen < MOST_SEEN; seen++) {
            boolean was = seenWas[seen] == 1;
            if (now.isTrueOf(number, seenWhat[seen], seenNumber[seen]) != was) return false;
        }
        return true;
    }

    // ---- shares and probabilities

    public int share(int note, boolean upper) {
        if (!now.paper.hasNote(note)) return UNKNOWN;
        weighParts();
        int notes = now.paper.notes();
        int own = 1 << note;
        int sum = 0;
        for (int part = 0; part < PARTS && part < 1 << notes; part++) {
            if ((part & own) != 0) continue;
            int before = Integer.bitCount(part);
            int orders = factorial(before) * factorial(notes - 1 - before);
            sum += orders * (foundInPart[part | own] - foundInPart[part]);
        }
        return partOfFraction(sum, factorial(notes), upper);
    }

    public int lost(int x, boolean upper) {
        if (x < 0 || x > 10) return OUTSIDE;
        weighParts();
        int notes = now.paper.notes();
        int sum = 0;
        for (int part = 0; part < PARTS && part < 1 << notes; part++) {
            if (deadInPart[part] != 0) continue;
            int there = Integer.bitCount(part);
            sum += power(10 - x, there) * power(x, notes - there);
        }
        return partOfFraction(sum, power(10, notes), upper);
    }

    /** Resolves every partial paper, once for each state of the paper: it is by far the dearest work. */
    private void weighParts() {
        if (partsVersion == now.paper.version()) return;
        trial.paper.copyFrom(now.paper);
        for (int part = 0; part < PARTS && part < 1 << now.paper.notes(); part++) {
            trial.studyPart(part);
            foundInPart[part] = trial.alive();
            deadInPart[part] = trial.dead();
        }
        partsVersion = now.paper.version();
    }

    private static int factorial(int n) {
        int product = 1;
        for (int factor = 2; factor <= n && factor <= MOST_NOTES; factor++) product *= factor;
        return product;
    }

    private static int power(int base, int exponent) {
        int product = 1;
        for (int factor = 0; factor < exponent && factor < MOST_NOTES; factor++) product *= base;
        return product;
    }

    private static int partOfFraction(int above, int below, boolean upper) {
        int divisor = commonDivisor(Math.abs(above), below);
        if (divisor == 0) return 0;
        return upper ? above / divisor : below / divisor;
    }

    private static int commonDivisor(int one, int other) {
        int high = one;
        int low = other;
        for (int step = 0; step < 64 && low != 0; step++) {
            int rest = high % low;
            high = low;
            low = rest;
        }
        return high;
    }

    public long seed(long v) {
        long before = seedNow;
        seedNow = v;
        return before;
    }

    public int drawn(int m) {
        if (m < 1 || m > MOST_DRAWN) return OUTSIDE;
        trial.paper.copyFrom(now.paper);
        int sum = 0;
        for (int move = 0; move < m; move++) {
            seedNow = seedNow * SEED_FACTOR + SEED_STEP;
            sum += foundAfterDraw((int) (seedNow >>> 33));
        }
        return sum;
    }

    private int foundAfterDraw(int v) {
        int notes = trial.paper.notes();
        if (notes <= 0) return 0;
        trial.paper.shiftNote(v % notes, v / 16 % notes, v / 256 % 2);
        trial.study();
        return trial.alive();
    }

    // ---- slots and counts

    public int keep(int slot) {
        if (slot < 0 || slot >= KEEPERS) return UNKNOWN;
        slots.store(slot, now.paper);
        return now.paper.notes();
    }

    public int again(int slot) {
        if (slot < 0 || slot >= KEEPERS) return UNKNOWN;
        if (!slots.holds(slot)) return STATE;
        slots.fetch(slot, now.paper);
        undoable = 0;
        return now.paper.notes();
    }

    public int count(int what) {
        switch (what) {
            case 0: return text.length();
            case 1: return now.paper.notes();
            case 6: return undoable;
            case 7: return seenCount;
            default: return countFound(what);
        }
    }

    private int countFound(int what) {
        now.study();
        switch (what) {
            case 2: return now.alive() + now.dead();
            case 3: return now.cases();
            case 4: return now.dead();
            case 5: return now.clashing();
            default: return OUTSIDE;
        }
    }

    /** A reference, packed into a long so that copies of papers make no objects. A report or pin of 0 is none. */
    private static final class Cite {
        private static final int FIRST = 2, SECOND = 5, REPORT = 8, OTHER = 22, PIN = 36, NUMBER = 43;

        static long makeFull(int first, int second, int report, int other) {
            long names = FORM_FULL | (long) first << FIRST | (long) second << SECOND;
            return names | (long) report << REPORT | (long) other << OTHER;
        }

        static long makeShort(int first) {
            return FORM_SHORT | (long) first << FIRST;
        }

        static long makeSame() {
            return FORM_SAME;
        }

        static long makeAbove(int number, int first) {
            return FORM_ABOVE | (long) first << FIRST | (long) number << NUMBER;
        }

        static long withPin(long cite, int pin) {
            return cite & ~(127L << PIN) | (long) pin << PIN;
        }

        static long withNumber(long cite, int number) {
            return cite & ~(15L << NUMBER) | (long) number << NUMBER;
        }

        static int form(long cite) {
            return (int) cite & 3;
        }

        static int first(long cite) {
            return (int) (cite >> FIRST) & 7;
        }

        static int second(long cite) {
            return (int) (cite >> SECOND) & 7;
        }

        static int report(long cite) {
            return (int) (cite >> REPORT) & 16383;
        }

        static int other(long cite) {
            return (int) (cite >> OTHER) & 16383;
        }

        static int pin(long cite) {
            return (int) (cite >> PIN) & 127;
        }

        static int number(long cite) {
            return (int) (cite >> NUMBER) & 15;
        }

        static boolean has(long cite, int report) {
            return report != 0 && (report(cite) == report || other(cite) == report);
        }

        static boolean haveCommonReport(long one, long two) {
            int other = other(one);
            if (report(one) == report(two) || report(one) == other(two)) return true;
            return other != 0 && (other == report(two) || other == other(two));
        }

        static boolean hasAllOf(long one, long two) {
            int report = report(two);
            int other = other(two);
            if (report != report(one) && report != other(one)) return false;
            return other == 0 || other == report(one) || other == other(one);
        }

        static boolean haveSameName(long one, long two) {
            return first(one) == first(two) && second(one) == second(two);
        }

        static int width(long cite) {
            int pinWidth = pin(cite) == 0 ? 0 : 3;
            switch (form(cite)) {
                case FORM_FULL: return pinWidth + (other(cite) == 0 ? 6 : 11);
                case FORM_ABOVE: return pinWidth + 3;
                default: return pinWidth + 1;
            }
        }
    }

    /** The text and its reader. A reading stops at the first sign that does not fit: that place is the fault. */
    private static final class Text {
        private final int[] signs = new int[MOST_TEXT];
        private int length;
        private int place;
        private int sign;

        Text() {
        }

        int length() {
            return length;
        }

        void clear() {
            length = 0;
        }

        boolean append(int letter) {
            if (length >= MOST_TEXT) return false;
            signs[length] = letter;
            length++;
            return true;
        }

        /** Reads the text as a paper; returns its fault or NONE. */
        int readInto(Paper paper) {
            place = -1;
            advance();
            paper.clear();
            if (length == 0) return NONE;
            paper.openNote();
            for (int references = 0; references < SLOTS; references++) {
                long cite = readCite();
                if (cite == FAULTY) return place;
                paper.addCite(cite);
                if (place == length) return NONE;
                boolean another = sign == ',' && paper.size(paper.notes() - 1) < MOST_IN_NOTE;
                boolean newNote = sign == ';' && paper.notes() < MOST_NOTES;
                if (!another && !newNote) return place;
                if (newNote) paper.openNote();
                advance();
            }
            return place;
        }

        private long readCite() {
            if (isLetter(sign)) return readNamed();
            if (sign == 'a') return readAbove();
            if (sign != 'i') return FAULTY;
            advance();
            return readPin(Cite.makeSame());
        }

        private long readNamed() {
            int first = sign - 'A';
            advance();
            if (!isLetter(sign)) return readPin(Cite.makeShort(first));
            int second = sign - 'A';
            if (second == first) return FAULTY;
            advance();
            int report = readReport('r', 's');
            if (report < 0) return FAULTY;
            if (sign != '=') return readPin(Cite.makeFull(first, second, report, 0));
            advance();
            int wanted = isOfSeries(report, 0) ? 's' : 'r';
            int other = readReport(wanted, wanted);
            if (other < 0) return FAULTY;
            return readPin(Cite.makeFull(first, second, report, other));
        }

        private long readAbove() {
            advance();
            if (!isDigit(sign)) return FAULTY;
            int number = sign - '0';
            advance();
            if (!isLetter(sign)) return FAULTY;
            int letter = sign - 'A';
            advance();
            return readPin(Cite.makeAbove(number, letter));
        }

        /** Reads a report of one of two series; returns it as 1000 * volume + 100 * series + page, or -1. */
        private int readReport(int oneSeries, int otherSeries) {
            if (!isDigit(sign) || sign == '0') return -1;
            int volume = sign - '0';
            advance();
            int series = sign == 's' ? 1 : 0;
            if (sign != oneSeries && sign != otherSeries) return -1;
            advance();
            int page = readPage();
            return page < 0 ? -1 : 1000 * volume + 100 * series + page;
        }

        private long readPin(long cite) {
            if (sign != '@') return cite;
            advance();
            int page = readPage();
            return page < 0 ? FAULTY : Cite.withPin(cite, page);
        }

        private int readPage() {
            if (!isDigit(sign)) return -1;
            int tens = 10 * (sign - '0');
            advance();
            if (!isDigit(sign) || tens == 0 && sign == '0') return -1;
            int page = tens + sign - '0';
            advance();
            return page;
        }

        private void advance() {
            place++;
            sign = place >= 0 && place < length && place < MOST_TEXT ? signs[place] : NONE;
        }

        private static boolean isDigit(int sign) {
            return sign >= '0' && sign <= '9';
        }

        private static boolean isLetter(int sign) {
            return sign >= 'A' && sign <= 'F';
        }
    }

    private static boolean isOfSeries(int report, int series) {
        return report != 0 && report / 100 % 10 == series;
    }

    private static boolean isOfVolume(int report, int volume) {
        return report != 0 && report / 1000 == volume;
    }

    /** The notes of a paper. Reference r of note n stands in slot 4 * n + r, so slots keep the order of references. */
    private static final class Paper {
        private final int[] sizes = new int[MOST_NOTES];
        private final long[] cites = new long[SLOTS];
        private int notes;
        private int version;

        Paper() {
        }

        static int slotOf(int note, int reference) {
            return MOST_IN_NOTE * note + reference;
        }

        int notes() {
            return notes;
        }

        /** Another number after every change, so that what was found out is never taken for a later paper. */
        int version() {
            return version;
        }

        boolean hasNote(int note) {
            return note >= 0 && note < notes;
        }

        int size(int note) {
            return note >= 0 && note < notes && note < MOST_NOTES ? sizes[note] : 0;
        }

        boolean hasReference(int note, int reference) {
            return reference >= 0 && reference < size(note);
        }

        boolean hasSlot(int slot) {
            return slot >= 0 && slot % MOST_IN_NOTE < size(slot / MOST_IN_NOTE);
        }

        long cite(int slot) {
            return slot >= 0 && slot < SLOTS ? cites[slot] : 0L;
        }

        /** The slots of the full references, as a set. */
        int fullSlots() {
            int set = 0;
            for (int note = 0; note < notes; note++) {
                for (int reference = 0; reference < size(note); reference++) {
                    int slot = slotOf(note, reference);
                    if (Cite.form(cite(slot)) == FORM_FULL) set |= 1 << slot;
                }
            }
            return set;
        }

        void clear() {
            version++;
            notes = 0;
        }

        void openNote() {
            if (notes >= MOST_NOTES) return;
            version++;
            sizes[notes] = 0;
            notes++;
        }

        void addCite(long cite) {
            int last = notes - 1;
            if (last < 0 || last >= MOST_NOTES || sizes[last] >= MOST_IN_NOTE) return;
            sizes[last]++;
            replaceCite(slotOf(last, sizes[last] - 1), cite);
        }

        void replaceCite(int slot, long cite) {
            if (slot < 0 || slot >= SLOTS) return;
            version++;
            cites[slot] = cite;
        }

        void copyFrom(Paper other) {
            version++;
            notes = other.notes;
            System.arraycopy(other.sizes, 0, sizes, 0, MOST_NOTES);
            System.arraycopy(other.cites, 0, cites, 0, SLOTS);
        }

        /** Copies what stands in the notes to a place of a shelf's rows. */
        void saveTo(int[] sizeRow, long[] citeRow, int place) {
            if (place < 0 || (place + 1) * MOST_NOTES > sizeRow.length || (place + 1) * SLOTS > citeRow.length) return;
            System.arraycopy(sizes, 0, sizeRow, place * MOST_NOTES, MOST_NOTES);
            System.arraycopy(cites, 0, citeRow, place * SLOTS, SLOTS);
        }

        void loadFrom(int[] sizeRow, long[] citeRow, int place, int howMany) {
            if (place < 0 || (place + 1) * MOST_NOTES > sizeRow.length || (place + 1) * SLOTS > citeRow.length) return;
            version++;
            notes = howMany;
            System.arraycopy(sizeRow, place * MOST_NOTES, sizes, 0, MOST_NOTES);
            System.arraycopy(citeRow, place * SLOTS, cites, 0, SLOTS);
        }

        /** The first note of the other paper becomes a note of this one; mending comes first and so leaves it alone. */
        void insertNote(int place, Paper other, int mend) {
            if (notes >= MOST_NOTES || place < 0 || place > notes) return;
            version++;
            if (mend == 1) mendNumbers(place, notes - 1, 1, NONE, NONE);
            sizes[notes] = other.sizes[0];
            System.arraycopy(other.cites, 0, cites, slotOf(notes, 0), MOST_IN_NOTE);
            notes++;
            rotateNotes(notes - 1, place);
        }

        void dropNote(int note, int mend) {
            if (!hasNote(note)) return;
            version++;
            if (mend == 1) mendNumbers(note + 1, notes - 1, -1, NONE, NONE);
            rotateNotes(note, notes - 1);
            notes--;
        }

        void shiftNote(int from, int to, int mend) {
            if (!hasNote(from) || !hasNote(to)) return;
            version++;
            if (mend == 1 && from < to) mendNumbers(from + 1, to, -1, from, to);
            if (mend == 1 && from > to) mendNumbers(to, from - 1, 1, from, to);
            rotateNotes(from, to);
        }

        /** Above references to the notes low to high go by a step, those to one note further go elsewhere. */
        private void mendNumbers(int low, int high, int step, int from, int to) {
            for (int slot = 0; slot < SLOTS; slot++) {
                if (!hasSlot(slot) || Cite.form(cites[slot]) != FORM_ABOVE) continue;
                int number = Cite.number(cites[slot]);
                if (number == from) {
                    cites[slot] = Cite.withNumber(cites[slot], to);
                } else if (number >= low && number <= high) {
                    cites[slot] = Cite.withNumber(cites[slot], number + step);
                }
            }
        }

        private void rotateNotes(int from, int to) {
            for (int note = from; note < to; note++) swapWithNext(note);
            for (int note = from - 1; note >= to; note--) swapWithNext(note);
        }

        private void swapWithNext(int note) {
            if (note < 0 || note >= MOST_NOTES - 1) return;
            int size = sizes[note];
            sizes[note] = sizes[note + 1];
            sizes[note + 1] = size;
            for (int reference = 0; reference < MOST_IN_NOTE; reference++) {
                int slot = slotOf(note, reference);
                long cite = cites[slot];
                cites[slot] = cites[slot + MOST_IN_NOTE];
                cites[slot + MOST_IN_NOTE] = cite;
            }
        }
    }

    /** Places for copies of papers, in rows that are made once. */
    private static final class Shelf {
        private final int places;
        private final boolean[] filled;
        private final int[] notes;
        private final int[] sizes;
        private final long[] cites;

        Shelf(int wanted) {
            places = Math.max(wanted, 0);
            filled = new boolean[places];
            notes = new int[places];
            sizes = new int[places * MOST_NOTES];
            cites = new long[places * SLOTS];
        }

        boolean holds(int place) {
            return place >= 0 && place < places && filled[place];
        }

        void clear() {
            for (int place = 0; place < places; place++) filled[place] = false;
        }

        void store(int place, Paper paper) {
            if (place < 0 || place >= places) return;
            filled[place] = true;
            notes[place] = paper.notes();
            paper.saveTo(sizes, cites, place);
        }

        void fetch(int place, Paper paper) {
            if (place < 0 || place >= places || !filled[place]) return;
            paper.loadFrom(sizes, cites, place, notes[place]);
        }
    }

    /** A paper as characters. */
    private static final class Sheet {
        private final int[] signs = new int[SHEET];
        private int length;

        Sheet() {
        }

        int length() {
            return length;
        }

        int signAt(int place) {
            return place >= 0 && place < length ? signs[place] : NONE;
        }

        void clear() {
            length = 0;
        }

        void addSign(int sign) {
            if (length >= SHEET) return;
            signs[length] = sign;
            length++;
        }

        void addCite(long cite) {
            switch (Cite.form(cite)) {
                case FORM_FULL:
                    addFull(cite);
                    break;
                case FORM_SAME:
                    addSign('i');
                    break;
                case FORM_ABOVE:
                    addSign('a');
                    addSign('0' + Cite.number(cite));
                    addSign('A' + Cite.first(cite));
                    break;
                default:
                    addSign('A' + Cite.first(cite));
                    break;
            }
            if (Cite.pin(cite) == 0) return;
            addSign('@');
            addPage(Cite.pin(cite));
        }

        private void addFull(long cite) {
            addSign('A' + Cite.first(cite));
            addSign('A' + Cite.second(cite));
            addReport(Cite.report(cite));
            if (Cite.other(cite) == 0) return;
            addSign('=');
            addReport(Cite.other(cite));
        }

        private void addReport(int report) {
            addSign('0' + report / 1000);
            addSign(isOfSeries(report, 0) ? 'r' : 's');
            addPage(report % 100);
        }

        private void addPage(int page) {
            addSign('0' + page / 10);
            addSign('0' + page % 10);
        }
    }

    /** A paper and what its references find. Sets of cases and of slots are bit sets: there are at most 32 of each. */
    private static final class Study {
        private final Paper paper = new Paper();
        private final int[] linked = new int[SLOTS];
        private final int[] caseAt = new int[SLOTS];
        private final int[] reasonAt = new int[SLOTS];
        private final int[] firstSlot = new int[SLOTS];
        private final int[] members = new int[SLOTS];
        private final int[] namedBy = new int[LETTERS];
        private final int[] foundBy = new int[MOST_NOTES];
        private int linkedVersion = NEVER;
        private int studiedVersion = NEVER;
        private int present;
        private int fulls;
        private int cases;
        private int cited;
        private int alive;
        private int dead;

        Study() {
        }

        int cases() {
            return cases;
        }

        int alive() {
            return alive;
        }

        int dead() {
            return dead;
        }

        int caseOf(int slot) {
            return slot >= 0 && slot < SLOTS ? caseAt[slot] : -1;
        }

        int reasonOf(int slot) {
            return slot >= 0 && slot < SLOTS ? reasonAt[slot] : 0;
        }

        void study() {
            if (studiedVersion == paper.version()) return;
            studyPart(ALL_NOTES);
            studiedVersion = paper.version();
        }

        /** Resolves the partial paper of these notes. */
        void studyPart(int notes) {
            studiedVersion = NEVER;
            if (linkedVersion != paper.version()) linkFullReferences();
            present = notes & (1 << paper.notes()) - 1;
            joinCases();
            alive = 0;
            dead = 0;
            cited = 0;
            Arrays.fill(foundBy, 0);
            int before = -1;
            for (int note = 0; note < paper.notes(); note++) {
                if (!isPresent(note)) continue;
                for (int reference = 0; reference < paper.size(note); reference++) resolve(note, reference, before);
                before = note;
            }
        }

        private boolean isFull(int slot) {
            return (fulls >> slot & 1) == 1;
        }

        private boolean isPresent(int note) {
            return note >= 0 && note < MOST_NOTES && (present >> note & 1) == 1;
        }

        private void linkFullReferences() {
            linkedVersion = paper.version();
            fulls = paper.fullSlots();
            for (int slot = 0; slot < SLOTS; slot++) {
                linked[slot] = 0;
                if (!isFull(slot)) continue;
                for (int before = 0; before < slot; before++) {
                    if (!isFull(before)) continue;
                    if (!Cite.haveCommonReport(paper.cite(slot), paper.cite(before))) continue;
                    linked[slot] |= 1 << before;
                    linked[before] |= 1 << slot;
                }
            }
        }

        private void joinCases() {
            cases = 0;
            Arrays.fill(namedBy, 0);
            int open = presentFullReferences();
            for (int slot = 0; slot < SLOTS; slot++) {
                if ((open >> slot & 1) == 0) continue;
                int joined = joinedTo(slot, open);
                open &= ~joined;
                addCase(slot, joined);
            }
        }

        private int presentFullReferences() {
            int slots = 0;
            for (int note = 0; note < MOST_NOTES; note++) {
                if (isPresent(note)) slots |= SLOTS_OF_NOTE << Paper.slotOf(note, 0);
            }
            return fulls & slots;
        }

        /** All that a chain of common reports joins to a slot; each round follows the chains by a link or more. */
        private int joinedTo(int start, int open) {
            int joined = 1 << start;
            for (int round = 0; round < SLOTS; round++) {
                int before = joined;
                for (int slot = start; slot < SLOTS; slot++) {
                    if ((joined >> slot & 1) == 1) joined |= linked[slot] & open;
                }
                if (joined == before) return joined;
            }
            return joined;
        }

        private void addCase(int first, int joined) {
            if (cases >= SLOTS) return;
            int letter = Cite.first(paper.cite(first));
            if (letter < LETTERS) namedBy[letter] |= 1 << cases;
            firstSlot[cases] = first;
            members[cases] = joined;
            for (int slot = first; slot < SLOTS; slot++) {
                if ((joined >> slot & 1) == 1) caseAt[slot] = cases;
            }
            cases++;
        }

        private void resolve(int note, int reference, int before) {
            int slot = Paper.slotOf(note, reference);
            long cite = paper.cite(slot);
            int number = Cite.number(cite);
            int named = namedWith(Cite.first(cite));
            switch (Cite.form(cite)) {
                case FORM_FULL:
                    settle(slot, caseOf(slot), 0);
                    cited |= 1 << caseOf(slot);
                    break;
                case FORM_SHORT:
                    settleOnly(slot, named & cited);
                    break;
                case FORM_SAME:
                    int pointed = pointedAt(note, reference, before);
                    settle(slot, caseOf(pointed), pointed < 0 ? 3 : 4);
                    break;
                default:
                    if (number < note && isPresent(number)) {
                        settleOnly(slot, named & foundByNote(number));
                    } else {
                        settle(slot, -1, 5);
                    }
                    break;
            }
        }

        private int namedWith(int letter) {
            return letter >= 0 && letter < LETTERS ? namedBy[letter] : 0;
        }

        private int foundByNote(int note) {
            return note >= 0 && note < MOST_NOTES ? foundBy[note] : 0;
        }

        /** The slot that a same reference points to from here, or -1. */
        private int pointedAt(int note, int reference, int before) {
            if (reference > 0) return Paper.slotOf(note, reference - 1);
            return before >= 0 && paper.size(before) == 1 ? Paper.slotOf(before, 0) : -1;
        }

        private void settleOnly(int slot, int candidates) {
            int many = Integer.bitCount(candidates);
            // below a single bit, there are as many bits as its place says
            int only = many == 1 ? Integer.bitCount(candidates - 1) : -1;
            settle(slot, only, many == 0 ? 1 : 2);
        }

        /** Notes the case that a reference finds, or why it is dead. */
        private void settle(int slot, int number, int reasonIfDead) {
            int note = slot / MOST_IN_NOTE;
            if (slot < 0 || slot >= SLOTS || note >= MOST_NOTES) return;
            caseAt[slot] = number;
            reasonAt[slot] = number < 0 ? reasonIfDead : 0;
            if (number < 0) {
                dead++;
            } else {
                alive++;
                foundBy[note] |= 1 << number;
            }
        }

        long firstCite(int number) {
            return number >= 0 && number < cases && number < SLOTS ? paper.cite(firstSlot[number]) : 0L;
        }

        private int membersOf(int number) {
            return number >= 0 && number < cases && number < SLOTS ? members[number] : 0;
        }

        private boolean isMember(int number, int slot) {
            return (membersOf(number) >> slot & 1) == 1;
        }

        int pinState(int slot) {
            int number = caseOf(slot);
            int pin = Cite.pin(paper.cite(slot));
            if (number < 0) return 4;
            if (pin == 0) return 1;
            int report = Cite.report(firstCite(number));
            if (pin < report % 100) return 2;
            // in the numbers of reports, the pages of a volume of a series follow one another
            return anotherCaseBegins(number, report, report - report % 100 + pin) ? 3 : 0;
        }

        private boolean anotherCaseBegins(int number, int after, int last) {
            for (int slot = 0; slot < SLOTS; slot++) {
                if (!isFull(slot) || isMember(number, slot)) continue;
                int report = Cite.report(paper.cite(slot));
                int other = Cite.other(paper.cite(slot));
                if (report > after && report <= last || other > after && other <= last) return true;
            }
            return false;
        }

        int reportsOf(int number) {
            int many = 0;
            for (int slot = 0; slot < SLOTS; slot++) {
                if (!isMember(number, slot)) continue;
                long cite = paper.cite(slot);
                if (isFirstWith(number, slot, Cite.report(cite))) many++;
                if (Cite.other(cite) != 0 && isFirstWith(number, slot, Cite.other(cite))) many++;
            }
            return many;
        }

        private boolean isFirstWith(int number, int slot, int report) {
            for (int before = 0; before < slot; before++) {
                if (isMember(number, before) && Cite.has(paper.cite(before), report)) return false;
            }
            return true;
        }

        boolean clashes(int number) {
            for (int slot = 0; slot < SLOTS; slot++) {
                if (!isMember(number, slot)) continue;
                if (!Cite.haveSameName(paper.cite(slot), firstCite(number))) return true;
            }
            return false;
        }

        int clashing() {
            int many = 0;
            for (int number = 0; number < cases; number++) {
                if (clashes(number)) many++;
            }
            return many;
        }

        int notesFinding(int number) {
            int notes = 0;
            for (int note = 0; note < MOST_NOTES; note++) {
                if (isFoundByNote(number, note)) notes |= 1 << note;
            }
            return notes;
        }

        private boolean isFoundByNote(int number, int note) {
            return (foundByNote(note) >> number & 1) == 1;
        }

        int referencesFinding(int number) {
            int many = 0;
            for (int slot = 0; slot < SLOTS; slot++) {
                if (paper.hasSlot(slot) && caseOf(slot) == number) many++;
            }
            return many;
        }

        /** The place in the table of cases: no two cases have the same first report, so places differ. */
        int rankOf(int number) {
            int rank = 0;
            for (int other = 0; other < cases; other++) {
                if (sortKey(other) < sortKey(number)) rank++;
            }
            return rank;
        }

        private int sortKey(int number) {
            long cite = firstCite(number);
            int report = Cite.report(cite);
            int series = isOfSeries(report, 0) ? 0 : 1;
            int name = LETTERS * Cite.first(cite) + Cite.second(cite);
            return 10000 * (2 * name + series) + report - 100 * series;
        }

        /** Whether the statement of an observation is true of a case. */
        boolean isTrueOf(int number, int what, int v) {
            switch (what) {
                case 0: return Cite.first(firstCite(number)) == v;
                case 1: return Cite.second(firstCite(number)) == v;
                case 2: return isFoundByNote(number, v);
                default: return hasReportOf(number, what, v);
            }
        }

        private boolean hasReportOf(int number, int what, int v) {
            for (int slot = 0; slot < SLOTS; slot++) {
                if (!isMember(number, slot)) continue;
                long cite = paper.cite(slot);
                if (what == 3 && (isOfVolume(Cite.report(cite), v) || isOfVolume(Cite.other(cite), v))) return true;
                if (what == 4 && (isOfSeries(Cite.report(cite), v) || isOfSeries(Cite.other(cite), v))) return true;
            }
            return false;
        }

        /** The first full reference of the case, with the pin of this reference. */
        long lengthened(int slot) {
            return Cite.withPin(firstCite(caseOf(slot)), Cite.pin(paper.cite(slot)));
        }

        long shortened(int slot) {
            long cite = paper.cite(slot);
            if (caseOf(slot) < 0) return cite;
            if (isFull(slot) && !isCoveredBefore(slot)) return cite;
            return Cite.withPin(shortestSpelling(slot), Cite.pin(cite));
        }

        /** Without such an earlier reference the cases could fall apart, and so nothing shorter is sought. */
        private boolean isCoveredBefore(int slot) {
            for (int before = 0; before < slot; before++) {
                if (isFull(before) && Cite.hasAllOf(paper.cite(before), paper.cite(slot))) return true;
            }
            return false;
        }

        private long shortestSpelling(int slot) {
            int number = caseOf(slot);
            int note = slot / MOST_IN_NOTE;
            int pointed = pointedAt(note, slot % MOST_IN_NOTE, note - 1);
            if (pointed >= 0 && caseOf(pointed) == number) return Cite.makeSame();
            int letter = Cite.first(firstCite(number));
            int wanted = 1 << number;
            if ((namedWith(letter) & citedBefore(slot)) == wanted) return Cite.makeShort(letter);
            for (int above = 0; above < note; above++) {
                if ((foundByNote(above) & namedWith(letter)) == wanted) return Cite.makeAbove(above, letter);
            }
            return firstCite(number);
        }

        private int citedBefore(int slot) {
            int set = 0;
            for (int number = 0; number < cases && number < SLOTS; number++) {
                if (firstSlot[number] < slot) set |= 1 << number;
            }
            return set;
        }

        /** Does an act of judge(), or tests its statement; false if it is impossible or not true. */
        boolean perform(int act) {
            study();
            int one = act / 100 % 10;
            int two = act / 10 % 10;
            int three = act % 10;
            switch (act / 1000) {
                case 1: return performMove(one, two, three);
                case 2: return performCut(one, two, three);
                case 3: return paper.hasReference(one, two) && caseOf(Paper.slotOf(one, two)) == (three == 9 ? -1 : three);
                case 4: return paper.hasReference(one, two) && reasonOf(Paper.slotOf(one, two)) == three;
                case 5: return one == 0 && alive >= 10 * two + three;
                case 6: return three == 0 && performShortening(one, two);
                default: return false;
            }
        }

        private boolean performMove(int from, int to, int mend) {
            if (!paper.hasNote(from) || !paper.hasNote(to) || !isMend(mend)) return false;
            paper.shiftNote(from, to, mend);
            return true;
        }

        private boolean performCut(int note, int mend, int zero) {
            if (!paper.hasNote(note) || !isMend(mend) || zero != 0) return false;
            paper.dropNote(note, mend);
            return true;
        }

        private boolean performShortening(int note, int reference) {
            int slot = Paper.slotOf(note, reference);
            if (!paper.hasReference(note, reference) || caseOf(slot) < 0) return false;
            paper.replaceCite(slot, shortened(slot));
            return true;
        }
    }
}
