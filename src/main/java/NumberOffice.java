import java.util.ArrayList;

/**
 * Invoice numbers without a gap: an office gives blocks of numbers to branches, letters that may be
 * lost or doubled go between them, and every number has one fate.
 */
public final class NumberOffice {
    public static final int NONE = -1;

    private static final int MOST_BRANCHES = 6;
    private static final int SERIES = 3;
    private static final int NUMBERS = 300;
    private static final int MOST_ASKED = 100;
    private static final int MOST_OPEN_BLOCKS = 2;
    private static final int MOST_EVENTS_IN_LETTER = 30;
    private static final int POST_ROOM = 64;
    private static final int LAST_YEAR = 9999;
    private static final int LAST_REASON = 99;
    private static final long MOST_CENTS = 1000000000000L;

    private static final int ASK = 1;
    private static final int FATES = 2;
    private static final int ANSWER = 3;

    private static final int NOT_GIVEN = 0;
    private static final int OUT = 1;
    private static final int USED = 2;
    private static final int VOID = 3;
    private static final int LOST = 4;

    private final Branch[] branches;
    private final Office office;
    private final ArrayList<Mail> post;

    public NumberOffice(int branches) {
        int count = Math.max(1, Math.min(MOST_BRANCHES, branches));
        this.branches = new Branch[count];
        for (int i = 0; i < count; i++) {
            this.branches[i] = new Branch(i);
        }
        office = new Office(count);
        post = new ArrayList<>();
    }

    public boolean series(int s, int year) throws IllegalStateException {
        requireUp(office);
        SeriesBook book = office.bookAt(s);
        if (book == null || year < 1 || year > LAST_YEAR) {
            return false;
        }
        return book.openFor(year);
    }

    public int request(int branch, int s, int n) throws IllegalStateException {
        Branch asker = branchAt(branch);
        if (asker == null) {
            return NONE;
        }
        requireUp(asker);
        BranchSeries book = asker.bookAt(s);
        if (book == null || n < 1 || n > MOST_ASKED || !asker.mayWrite()
                || book.openBlocks() >= MOST_OPEN_BLOCKS) {
            return NONE;
        }
        return sendNew(asker, new Letter(asker, ASK, s, n, new Event[0]));
    }

    public int report(int branch, int s) throws IllegalStateException {
        Branch reporter = branchAt(branch);
        if (reporter == null) {
            return NONE;
        }
        requireUp(reporter);
        BranchSeries book = reporter.bookAt(s);
        if (book == null || !reporter.mayWrite() || book.unreported() < 1) {
            return NONE;
        }
        return sendNew(reporter, new Letter(reporter, FATES, s, 0, book.eventsForLetter()));
    }

    public boolean again(int branch) {
        Branch waiter = branchAt(branch);
        if (waiter == null || !waiter.up) {
            return false;
        }
        Letter letter = waiter.unanswered();
        if (letter == null) {
            return false;
        }
        waiter.save();
        send(letter);
        return true;
    }

    public int invoice(int branch, int s, long cents, int date) throws IllegalStateException {
        Branch seller = branchAt(branch);
        if (seller == null) {
            return NONE;
        }
        requireUp(seller);
        BranchSeries book = seller.bookAt(s);
        if (book == null || cents < 1 || cents > MOST_CENTS || !book.dateFits(date)) {
            return NONE;
        }
        int number = book.useUpNext(true, cents, date);
        if (number != NONE) {
            seller.save();
        }
        return number;
    }

    public int voidNext(int branch, int s, int reason) throws IllegalStateException {
        Branch owner = branchAt(branch);
        if (owner == null) {
            return NONE;
        }
        requireUp(owner);
        BranchSeries book = owner.bookAt(s);
        if (book == null || !isReason(reason)) {
            return NONE;
        }
        return book.useUpNext(false, 0, reason);
    }

    public boolean voidUsed(int branch, int s, int number, int reason) throws IllegalStateException {
        Branch owner = branchAt(branch);
        if (owner == null) {
            return false;
        }
        requireUp(owner);
        BranchSeries book = owner.bookAt(s);
        if (book == null || !isReason(reason) || book.fateOf(number) != USED) {
            return false;
        }
        book.addEvent(number, false, 0, reason);
        return true;
    }

    public int strike(int branch) throws IllegalStateException {
        requireUp(office);
        if (branchAt(branch) == null) {
            return NONE;
        }
        return office.strikeOut(branch);
    }

    public int close(int s) throws IllegalStateException {
        requireUp(office);
        SeriesBook book = office.bookAt(s);
        if (book == null || !book.isOpen()) {
            return NONE;
        }
        int leastOut = book.leastOut();
        if (leastOut == 0) {
            book.shut();
            office.save();
        }
        return leastOut;
    }

    public boolean crash(int side) {
        Side failing = sideAt(side);
        if (failing == null || !failing.up) {
            return false;
        }
        failing.up = false;
        failing.forget();
        return true;
    }

    public boolean mount(int side) {
        Side coming = sideAt(side);
        if (coming == null || coming.up) {
            return false;
        }
        coming.up = true;
        return true;
    }

    public boolean flush(int side) {
        Side saving = sideAt(side);
        if (saving == null || !saving.up) {
            return false;
        }
        saving.save();
        return true;
    }

    public int letters() {
        return post.size();
    }

    public int letter(int i, int what) {
        Mail mail = mailAt(i);
        if (mail == null) {
            return NONE;
        }
        switch (what) {
            case 0:
                return mail.kind;
            case 1:
                return mail.branch;
            case 2:
                return mail.number;
            default:
                return NONE;
        }
    }

    public boolean deliver(int i) {
        Mail mail = mailAt(i);
        if (mail == null) {
            return false;
        }
        // Taken off first: what has come is no more on its way when its answer needs a place.
        post.remove(i);
        if (mail instanceof Letter letter) {
            bringToOffice(letter);
        } else if (mail instanceof Answer answer) {
            bringToBranch(answer);
        }
        return true;
    }

    public boolean drop(int i) {
        if (mailAt(i) == null) {
            return false;
        }
        post.remove(i);
        return true;
    }

    public boolean twin(int i) {
        Mail mail = mailAt(i);
        return mail != null && send(mail);
    }

    public int fate(int s, int number) throws IllegalStateException {
        requireUp(office);
        SeriesBook book = office.bookAt(s);
        return book == null ? NOT_GIVEN : book.fateOf(number);
    }

    public long invoiceOf(int s, int number, int field) throws IllegalStateException {
        requireUp(office);
        SeriesBook book = office.bookAt(s);
        return book == null ? NONE : book.fieldOf(number, field);
    }

    public long total(int s, int branch) throws IllegalStateException {
        requireUp(office);
        SeriesBook book = office.bookAt(s);
        return book == null ? 0 : book.centsOf(branch);
    }

    public int branchFate(int branch, int s, int number) {
        Branch owner = branchAt(branch);
        if (owner == null || !owner.up) {
            return NONE;
        }
        BranchSeries book = owner.bookAt(s);
        return book == null ? NONE : book.fateOf(number);
    }

    public int branch(int branch, int what) {
        Branch asked = branchAt(branch);
        if (asked == null || !asked.up) {
            return NONE;
        }
        switch (what) {
            case 0:
                return asked.waits ? 1 : 0;
            case 1:
                return asked.latestNumber();
            case 2:
                return asked.told ? 1 : 0;
            case 3:
            case 4:
            case 5:
                BranchSeries book = asked.bookAt(what - 3);
                return book == null ? NONE : book.unreported();
            default:
                return NONE;
        }
    }

    public int listByte(int s, int i) throws IllegalStateException {
        requireUp(office);
        SeriesBook book = office.bookAt(s);
        return book == null ? NONE : book.listByteAt(i);
    }

    private static void requireUp(Side side) {
        if (!side.up) {
            throw new IllegalStateException("this side is down");
        }
    }

    private static boolean isReason(int reason) {
        return reason >= 1 && reason <= LAST_REASON;
    }

    private Branch branchAt(int number) {
        return number >= 0 && number < branches.length ? branches[number] : null;
    }

    private Side sideAt(int number) {
        return number == branches.length ? office : branchAt(number);
    }

    private Mail mailAt(int i) {
        return i >= 0 && i < post.size() ? post.get(i) : null;
    }

    private boolean send(Mail mail) {
        if (post.size() >= POST_ROOM) {
            return false;
        }
        post.add(mail);
        return true;
    }

    private int sendNew(Branch writer, Letter letter) {
        writer.latest = letter;
        writer.waits = true;
        // Safe before it is sent: else a branch that came back could give its number to another letter.
        writer.save();
        send(letter);
        return letter.number;
    }

    private void bringToOffice(Letter letter) {
        if (!office.up) {
            return;
        }
        Answer answer = office.answerTo(letter);
        if (answer != null) {
            send(answer);
        }
    }

    private void bringToBranch(Answer answer) {
        Branch receiver = branchAt(answer.branch);
        if (receiver != null && receiver.up) {
            receiver.read(answer);
        }
    }

    /** What can break down and come back, knowing then only what was safe. */
    private abstract static class Side {
        boolean up = true;

        abstract void save();

        abstract void forget();
    }

    /** What a branch knows; letters never change, so the safe one may be the same object. */
    private static final class Branch extends Side {
        final int number;
        final BranchSeries[] books = new BranchSeries[SERIES];
        Letter latest;
        boolean waits;
        boolean told;
        Letter safeLatest;
        boolean safeWaits;
        boolean safeTold;

        Branch(int number) {
            this.number = number;
            for (int s = 0; s < SERIES; s++) {
                books[s] = new BranchSeries();
            }
        }

        void save() {
            for (int s = 0; s < SERIES; s++) {
                books[s].save();
            }
            safeLatest = latest;
            safeWaits = waits;
            safeTold = told;
        }

        void forget() {
            for (int s = 0; s < SERIES; s++) {
                books[s].forget();
            }
            latest = safeLatest;
            waits = safeWaits;
            told = safeTold;
        }

        BranchSeries bookAt(int s) {
            return s >= 0 && s < SERIES ? books[s] : null;
        }

        int latestNumber() {
            return latest == null ? 0 : latest.number;
        }

        boolean mayWrite() {
            return !waits && !told;
        }

        /** The letter that it waits for, or null. */
        Letter unanswered() {
            return waits ? latest : null;
        }

        void read(Answer answer) {
            Letter letter = unanswered();
            if (letter == null || answer.number != letter.number) {
                return;
            }
            waits = false;
            BranchSeries book = bookAt(letter.series);
            if (answer.struck) {
                told = true;
            } else if (book != null && letter.kind == FATES) {
                book.reported += letter.events.length;
            } else if (book != null && answer.block != null) {
                book.blocks.add(answer.block);
            }
        }
    }

    /**
     * What a branch knows of one series. Blocks and events are only ever added, so what is safe of
     * them is told by how many there were.
     */
    private static final class BranchSeries {
        final ArrayList<Block> blocks = new ArrayList<>();
        final ArrayList<Event> events = new ArrayList<>();
        int blocksUsedUp;
        int usedUpOfNextBlock;
        int reported;
        int safeBlocks;
        int safeEvents;
        int safeBlocksUsedUp;
        int safeUsedUpOfNextBlock;
        int safeReported;

        void save() {
            safeBlocks = blocks.size();
            safeEvents = events.size();
            safeBlocksUsedUp = blocksUsedUp;
            safeUsedUpOfNextBlock = usedUpOfNextBlock;
            safeReported = reported;
        }

        void forget() {
            for (int i = blocks.size() - 1; i >= safeBlocks; i--) {
                blocks.remove(i);
            }
            for (int i = events.size() - 1; i >= safeEvents; i--) {
                events.remove(i);
            }
            blocksUsedUp = safeBlocksUsedUp;
            usedUpOfNextBlock = safeUsedUpOfNextBlock;
            reported = safeReported;
        }

        int openBlocks() {
            return blocks.size() - blocksUsedUp;
        }

        int unreported() {
            return events.size() - reported;
        }

        void addEvent(int number, boolean used, long cents, int detail) {
            events.add(new Event(number, used, cents, detail));
        }

        Block nextBlock() {
            return blocksUsedUp < blocks.size() ? blocks.get(blocksUsedUp) : null;
        }

        /** The number that was next, or NONE without one. */
        int useUpNext(boolean used, long cents, int detail) {
            Block block = nextBlock();
            if (block == null) {
                return NONE;
            }
            int number = block.first + usedUpOfNextBlock;
            usedUpOfNextBlock++;
            if (usedUpOfNextBlock >= block.count) {
                blocksUsedUp++;
                usedUpOfNextBlock = 0;
            }
            addEvent(number, used, cents, detail);
            return number;
        }

        /** Not before the date of the number of the next number's block that was used latest. */
        boolean dateFits(int date) {
            Block block = nextBlock();
            for (int i = events.size() - 1; i >= 0 && block != null; i--) {
                Event event = events.get(i);
                if (event.used && block.holds(event.number)) {
                    return date >= event.detail;
                }
            }
            return true;
        }

        Event[] eventsForLetter() {
            int count = Math.max(0, Math.min(MOST_EVENTS_IN_LETTER, unreported()));
            Event[] told = new Event[count];
            for (int i = 0; i < count; i++) {
                told[i] = events.get(reported + i);
            }
            return told;
        }

        int fateOf(int number) {
            // The latest event of a number tells its fate: nothing comes behind its being void.
            for (int i = events.size() - 1; i >= 0; i--) {
                Event event = events.get(i);
                if (event.number == number) {
                    return event.used ? USED : VOID;
                }
            }
            for (int i = 0; i < blocks.size(); i++) {
                if (blocks.get(i).holds(number)) {
                    return OUT;
                }
            }
            return NOT_GIVEN;
        }
    }

    private static final class Block {
        final int first;
        final int count;

        Block(int first, int count) {
            this.first = first;
            this.count = count;
        }

        boolean holds(int number) {
            return number >= first && number < first + count;
        }
    }

    /** A number was used, or became void; detail is the date of the one, the reason of the other. */
    private static final class Event {
        final int number;
        final boolean used;
        final long cents;
        final int detail;

        Event(int number, boolean used, long cents, int detail) {
            this.number = number;
            this.used = used;
            this.cents = cents;
            this.detail = detail;
        }
    }

    /** What goes by the post; it never changes, so one object may be on its way more than once. */
    private abstract static class Mail {
        final int kind;
        final int branch;
        final int number;

        Mail(int kind, int branch, int number) {
            this.kind = kind;
            this.branch = branch;
            this.number = number;
        }
    }

    /** ASK wants numbers and has no events; FATES has events. */
    private static final class Letter extends Mail {
        final int series;
        final int wanted;
        final Event[] events;

        Letter(Branch writer, int kind, int series, int wanted, Event[] events) {
            super(kind, writer.number, writer.latestNumber() + 1);
            this.series = series;
            this.wanted = wanted;
            this.events = events;
        }
    }

    /** The block is null where the answer is STRUCK, to FATES, or a block of none. */
    private static final class Answer extends Mail {
        final boolean struck;
        final Block block;

        Answer(Letter letter, boolean struck, Block block) {
            super(ANSWER, letter.branch, letter.number);
            this.struck = struck;
            this.block = block;
        }
    }

    /** What the office knows, twice: as it is and as it is safe. */
    private static final class Office extends Side {
        final SeriesBook[] books = new SeriesBook[SERIES];
        final SeriesBook[] safeBooks = new SeriesBook[SERIES];
        final boolean[] struck;
        final boolean[] safeStruck;
        final Answer[] answers;
        final Answer[] safeAnswers;

        Office(int branches) {
            for (int s = 0; s < SERIES; s++) {
                books[s] = new SeriesBook();
                safeBooks[s] = new SeriesBook();
            }
            struck = new boolean[branches];
            safeStruck = new boolean[branches];
            answers = new Answer[branches];
            safeAnswers = new Answer[branches];
        }

        void save() {
            for (int s = 0; s < SERIES; s++) {
                safeBooks[s].copyFrom(books[s]);
            }
            for (int b = 0; b < struck.length; b++) {
                safeStruck[b] = struck[b];
                safeAnswers[b] = answers[b];
            }
        }

        void forget() {
            for (int s = 0; s < SERIES; s++) {
                books[s].copyFrom(safeBooks[s]);
            }
            for (int b = 0; b < struck.length; b++) {
                struck[b] = safeStruck[b];
                answers[b] = safeAnswers[b];
            }
        }

        SeriesBook bookAt(int s) {
            return s >= 0 && s < SERIES ? books[s] : null;
        }

        boolean knows(int branch) {
            return branch >= 0 && branch < struck.length;
        }

        int strikeOut(int branch) {
            if (!knows(branch) || struck[branch]) {
                return NONE;
            }
            struck[branch] = true;
            int lost = 0;
            for (int s = 0; s < SERIES; s++) {
                lost += books[s].loseNumbersOf(branch);
            }
            return lost;
        }

        /** The answer that goes to the branch, or null where none does. */
        Answer answerTo(Letter letter) {
            if (!knows(letter.branch)) {
                return null;
            }
            Answer last = answers[letter.branch];
            int lastTaken = last == null ? 0 : last.number;
            if (letter.number == lastTaken) {
                return last;
            }
            if (letter.number != lastTaken + 1) {
                return null;
            }
            Answer answer = take(letter);
            answers[letter.branch] = answer;
            save();
            return answer;
        }

        private Answer take(Letter letter) {
            SeriesBook book = bookAt(letter.series);
            boolean isStruck = knows(letter.branch) && struck[letter.branch];
            if (isStruck || book == null) {
                return new Answer(letter, isStruck, null);
            }
            if (letter.kind == ASK) {
                return new Answer(letter, false, book.give(letter.branch, letter.wanted));
            }
            for (int i = 0; i < letter.events.length; i++) {
                book.enter(letter.events[i]);
            }
            return new Answer(letter, false, null);
        }
    }

    /** What the office knows of one series; number n stands at place n - 1 of each row. */
    private static final class SeriesBook {
        static final int NEVER_OPENED = 0;
        static final int OPEN = 1;
        static final int CLOSED = 2;

        int state = NEVER_OPENED;
        int year;
        int given;
        final int[] holders = new int[NUMBERS];
        final int[] fates = new int[NUMBERS];
        final long[] cents = new long[NUMBERS];
        final int[] details = new int[NUMBERS];
        // Nothing of a closed series changes any more, so its list is written once.
        String list = "";

        void copyFrom(SeriesBook other) {
            state = other.state;
            year = other.year;
            given = other.given;
            System.arraycopy(other.holders, 0, holders, 0, NUMBERS);
            System.arraycopy(other.fates, 0, fates, 0, NUMBERS);
            System.arraycopy(other.cents, 0, cents, 0, NUMBERS);
            System.arraycopy(other.details, 0, details, 0, NUMBERS);
            list = other.list;
        }

        boolean openFor(int newYear) {
            if (state != NEVER_OPENED) {
                return false;
            }
            state = OPEN;
            year = newYear;
            return true;
        }

        boolean isOpen() {
            return state == OPEN;
        }

        void shut() {
            state = CLOSED;
            list = new ListText().write(this);
        }

        boolean isGiven(int number) {
            return number >= 1 && number <= given && number <= NUMBERS;
        }

        int fateOf(int number) {
            return isGiven(number) ? fates[number - 1] : NOT_GIVEN;
        }

        /** The block that is given, or null for a block of none. */
        Block give(int branch, int wanted) {
            int count = state == OPEN ? Math.min(wanted, NUMBERS - given) : 0;
            if (count < 1) {
                return null;
            }
            Block block = new Block(given + 1, count);
            for (int i = given; i < given + count; i++) {
                holders[i] = branch;
                fates[i] = OUT;
            }
            given += count;
            return block;
        }

        void enter(Event event) {
            int known = fateOf(event.number);
            boolean fits = event.used
                    ? known == OUT
                    : (known == OUT || known == USED) && state != CLOSED;
            if (!fits) {
                return;
            }
            int at = event.number - 1;
            fates[at] = event.used ? USED : VOID;
            cents[at] = event.cents;
            details[at] = event.detail;
        }

        int loseNumbersOf(int branch) {
            int lost = 0;
            for (int i = 0; i < given; i++) {
                if (holders[i] == branch && fates[i] == OUT) {
                    fates[i] = LOST;
                    lost++;
                }
            }
            return lost;
        }

        /** 0 if no number is out. */
        int leastOut() {
            for (int i = 0; i < given; i++) {
                if (fates[i] == OUT) {
                    return i + 1;
                }
            }
            return 0;
        }

        long fieldOf(int number, int field) {
            int known = fateOf(number);
            if (known == NOT_GIVEN) {
                return NONE;
            }
            int at = number - 1;
            switch (field) {
                case 0:
                    return known == USED ? cents[at] : NONE;
                case 1:
                    return known == USED ? details[at] : NONE;
                case 2:
                    return holders[at];
                case 3:
                    return known == VOID ? details[at] : NONE;
                default:
                    return NONE;
            }
        }

        long centsOf(int branch) {
            long sum = 0;
            for (int i = 0; i < given; i++) {
                if (holders[i] == branch && fates[i] == USED) {
                    sum += cents[i];
                }
            }
            return sum;
        }

        int listByteAt(int i) {
            return i >= 0 && i < list.length() ? list.charAt(i) : NONE;
        }
    }

    /** Writes THE LIST of a series. */
    private static final class ListText {
        static final int MOST_DIGITS = 20;

        final StringBuilder text = new StringBuilder();
        final char[] digits = new char[MOST_DIGITS];

        String write(SeriesBook book) {
            long total = 0;
            for (int number = 1; number <= book.given; number++) {
                addLine(book, number);
                if (book.fateOf(number) == USED) {
                    total += book.fieldOf(number, 0);
                }
            }
            text.append("T ");
            addAmount(total);
            text.append(' ');
            addNumber(book.year);
            text.append('\n');
            return text.toString();
        }

        private void addLine(SeriesBook book, int number) {
            addNumber(number);
            switch (book.fateOf(number)) {
                case USED:
                    text.append(" U ");
                    addAmount(book.fieldOf(number, 0));
                    text.append(' ');
                    addNumber(book.fieldOf(number, 1));
                    break;
                case VOID:
                    text.append(" V ");
                    addNumber(book.fieldOf(number, 3));
                    break;
                default:
                    text.append(" L");
                    break;
            }
            text.append('\n');
        }

        private void addAmount(long cents) {
            addNumber(cents / 100);
            text.append('.');
            text.append(digit(cents / 10));
            text.append(digit(cents));
        }

        private void addNumber(long value) {
            if (value < 0) {
                text.append('-');
            }
            long rest = Math.abs(value);
            int from = MOST_DIGITS;
            do {
                from--;
                digits[from] = digit(rest);
                rest /= 10;
            } while (rest > 0 && from > 0);
            for (int i = from; i < MOST_DIGITS; i++) {
                text.append(digits[i]);
            }
        }

        private static char digit(long value) {
            return (char) ('0' + value % 10);
        }
    }
}
