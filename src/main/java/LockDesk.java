/** Locks for transactions on a tree of objects; ../shared/DOC.md says what each call must do. */
public final class LockDesk {
    public static final int NONE = -1, ABORTED = -1, WAITS = 0, GRANTED = 1;

    private static final int TRANSACTIONS = 60;
    private static final int HIGHEST_PRIORITY = 99;

    private static final int OBJECTS = 85;
    private static final int CHILDREN = 4;
    private static final int LEVELS = 4;

    private static final int MODES = 5;
    private static final int IS = 0, IX = 1, S = 2, SIX = 3, X = 4;

    // GIVEN_UP is the document's state ABORTED (3), whose name the answer of lock() has taken.
    private static final int ACTIVE = 0, WAITING = 1, COMMITTED = 2, GIVEN_UP = 3;

    private final int[] states = new int[TRANSACTIONS];
    private final int[] priorities = new int[TRANSACTIONS];
    private final int[] awaited = new int[TRANSACTIONS];
    private final int[] wanted = new int[TRANSACTIONS];
    private int begun = 0;

    // One set of transactions, as bits, for each object and mode.
    private final long[] holders = new long[OBJECTS * MODES];

    // A transaction has one request at most, so all the queues fit into one line:
    // an object's queue is those in the line that wait for it, in the line's order.
    private final int[] line = new int[TRANSACTIONS];
    private int lineLength = 0;

    // Kept, and filled anew for each search, so that no call makes a row of its own.
    private final long[] waitRows = new long[TRANSACTIONS];

    private int abortedInCircles = 0;
    private int grantedAtOnce = 0;
    private int grantedLater = 0;

    public LockDesk() {
    }

    public int begin(int priority) throws IllegalArgumentException, IllegalStateException {
        if (priority < 0 || priority > HIGHEST_PRIORITY) {
            throw new IllegalArgumentException("the priority is not 0 .. 99");
        }
        if (begun >= TRANSACTIONS) {
            throw new IllegalStateException("there are 60 transactions");
        }
        int transaction = begun;
        states[transaction] = ACTIVE;
        priorities[transaction] = priority;
        awaited[transaction] = NONE;
        wanted[transaction] = NONE;
        begun++;
        return transaction;
    }

    public int lock(int transaction, int object, int mode)
            throws IndexOutOfBoundsException, IllegalArgumentException, IllegalStateException {
        checkTransaction(transaction);
        checkObject(object);
        if (mode < 0 || mode >= MODES) {
            throw new IllegalArgumentException("there is no such mode");
        }
        checkActive(transaction);
        if (!mayAsk(transaction, object, mode)) {
            throw new IllegalStateException("the object above is not held as it must be");
        }
        int held = heldMode(transaction, object);
        int wants = leastAbove(held, mode);
        if (wants == held) {
            return GRANTED;
        }
        joinQueue(transaction, object, wants);
        serve(object);
        if (awaited[transaction] != NONE) {
            states[transaction] = WAITING;
            breakCircles(transaction);
        }
        return answerFor(transaction);
    }

    public int commit(int transaction) throws IndexOutOfBoundsException, IllegalStateException {
        checkTransaction(transaction);
        checkActive(transaction);
        return end(transaction, COMMITTED);
    }

    public int abort(int transaction) throws IndexOutOfBoundsException, IllegalStateException {
        checkTransaction(transaction);
        if (states[transaction] != ACTIVE && states[transaction] != WAITING) {
            throw new IllegalStateException("the transaction has ended");
        }
        return end(transaction, GIVEN_UP);
    }

    public int escalate(int transaction, int object) throws IndexOutOfBoundsException, IllegalStateException {
        checkTransaction(transaction);
        checkObject(object);
        checkActive(transaction);
        int held = heldMode(transaction, object);
        if (held == NONE) {
            throw new IllegalStateException("the object is not held");
        }
        int wants = leastAbove(held, writesBelow(transaction, object) ? X : S);
        if (othersInTheWay(transaction, object, wants) != 0) {
            return NONE;
        }
        hold(transaction, object, wants);
        int dropped = dropBelow(transaction, object);
        serve(object);
        return dropped;
    }

    public int mode(int transaction, int object) throws IndexOutOfBoundsException {
        checkTransaction(transaction);
        checkObject(object);
        return heldMode(transaction, object);
    }

    public int told(int transaction, int what) throws IndexOutOfBoundsException, IllegalArgumentException {
        checkTransaction(transaction);
        switch (what) {
            case 0:
                return states[transaction];
            case 1:
                return priorities[transaction];
            case 2:
                return heldObjects(transaction);
            case 3:
                return awaited[transaction];
            case 4:
                return wanted[transaction];
            default:
                throw new IllegalArgumentException("what is none of 0 .. 4");
        }
    }

    public int many(int object, boolean queue) throws IndexOutOfBoundsException {
        checkObject(object);
        return queue ? queueLength(object) : Long.bitCount(allHolders(object));
    }

    public int at(int object, int i, boolean queue) throws IndexOutOfBoundsException {
        checkObject(object);
        int found = queue ? inQueue(object, i) : amongHolders(object, i);
        if (found == NONE) {
            throw new IndexOutOfBoundsException("there is no such place");
        }
        return found;
    }

    public long waitsFor(int transaction) throws IndexOutOfBoundsException {
        checkTransaction(transaction);
        return waitRow(transaction);
    }

    public int count(int what) {
        switch (what) {
            case 0:
                return begun;
            case 1:
                return inState(ACTIVE);
            case 2:
                return inState(WAITING);
            case 3:
                return inState(COMMITTED);
            case 4:
                return inState(GIVEN_UP);
            case 5:
                return abortedInCircles;
            case 6:
                return grantedAtOnce;
            case 7:
                return grantedLater;
            default:
                return NONE;
        }
    }

    public int astray() {
        int found = 0;
        for (int object = 0; object < OBJECTS; object++) {
            if (holdersClash(object) || firstToGrant(object) != NONE) {
                found++;
            }
        }
        return found;
    }

    // What calls may be given

    private void checkTransaction(int transaction) {
        if (transaction < 0 || transaction >= begun) {
            throw new IndexOutOfBoundsException("there is no such transaction");
        }
    }

    private static void checkObject(int object) {
        if (object < 0 || object >= OBJECTS) {
            throw new IndexOutOfBoundsException("there is no such object");
        }
    }

    private void checkActive(int transaction) {
        if (states[transaction] != ACTIVE) {
            throw new IllegalStateException("the transaction is not active");
        }
    }

    private boolean mayAsk(int transaction, int object, int mode) {
        if (object == 0) {
            return true;
        }
        int heldAbove = heldMode(transaction, above(object));
        return isWriting(mode) ? isWriting(heldAbove) : heldAbove != NONE;
    }

    // The tree

    /** The object above, NONE for object 0 (and above NONE). */
    private static int above(int object) {
        return Math.floorDiv(object - 1, CHILDREN);
    }

    private static boolean isBelow(int lower, int upper) {
        int object = lower;
        for (int level = 1; level < LEVELS; level++) {
            object = above(object);
            if (object == upper) {
                return true;
            }
        }
        return false;
    }

    // Modes

    private static boolean goTogether(int one, int other) {
        if (one == X || other == X) {
            return false;
        }
        if (one == IS || other == IS) {
            return true;
        }
        return one == other && one != SIX;
    }

    /** Either may be NONE, which is less than every mode. */
    private static int leastAbove(int one, int other) {
        // The numbers rise as the modes do, but IX and S, neither of them less than the other.
        boolean apart = (one == IX && other == S) || (one == S && other == IX);
        return apart ? SIX : Math.max(one, other);
    }

    private static boolean isWriting(int mode) {
        return mode == IX || mode == SIX || mode == X;
    }

    // Who holds what

    private static long bit(int transaction) {
        return 1L << transaction;
    }

    private int heldMode(int transaction, int object) {
        for (int mode = 0; mode < MODES; mode++) {
            if ((holders[object * MODES + mode] & bit(transaction)) != 0) {
                return mode;
            }
        }
        return NONE;
    }

    private void hold(int transaction, int object, int mode) {
        for (int held = 0; held < MODES; held++) {
            holders[object * MODES + held] &= ~bit(transaction);
        }
        holders[object * MODES + mode] |= bit(transaction);
    }

    /** Whether it was held. */
    private boolean letGo(int transaction, int object) {
        int held = heldMode(transaction, object);
        if (held == NONE) {
            return false;
        }
        holders[object * MODES + held] &= ~bit(transaction);
        return true;
    }

    private int heldObjects(int transaction) {
        int held = 0;
        for (int object = 0; object < OBJECTS; object++) {
            if (heldMode(transaction, object) != NONE) {
                held++;
            }
        }
        return held;
    }

    private long allHolders(int object) {
        long all = 0;
        for (int mode = 0; mode < MODES; mode++) {
            all |= holders[object * MODES + mode];
        }
        return all;
    }

    /** The i-th holder by numbers, NONE if there is none. */
    private int amongHolders(int object, int i) {
        long all = allHolders(object);
        int place = 0;
        for (int transaction = 0; transaction < begun; transaction++) {
            if ((all & bit(transaction)) != 0) {
                if (place == i) {
                    return transaction;
                }
                place++;
            }
        }
        return NONE;
    }

    /** The other transactions that hold the object in a mode that does not go together with this one. */
    private long othersInTheWay(int transaction, int object, int mode) {
        long found = 0;
        for (int held = 0; held < MODES; held++) {
            if (!goTogether(held, mode)) {
                found |= holders[object * MODES + held];
            }
        }
        return found & ~bit(transaction);
    }

    private boolean holdersClash(int object) {
        for (int mode = 0; mode < MODES; mode++) {
            long same = holders[object * MODES + mode];
            // One holder speaks for all of the same mode: whoever is in another's way is in its way, too,
            // and if that is this one itself, then the other one is.
            if (same != 0 && othersInTheWay(Long.numberOfTrailingZeros(same), object, mode) != 0) {
                return true;
            }
        }
        return false;
    }

    private boolean writesBelow(int transaction, int object) {
        for (int lower = object + 1; lower < OBJECTS; lower++) {
            if (isBelow(lower, object) && isWriting(heldMode(transaction, lower))) {
                return true;
            }
        }
        return false;
    }

    /** Lets go of all below the object, and serves it: how many there were. */
    private int dropBelow(int transaction, int object) {
        int dropped = 0;
        for (int lower = object + 1; lower < OBJECTS; lower++) {
            if (isBelow(lower, object) && letGo(transaction, lower)) {
                serve(lower);
                dropped++;
            }
        }
        return dropped;
    }

    // The queues

    private void joinQueue(int transaction, int object, int wants) {
        // One that asks is ACTIVE, so it does not stand in the line yet: there is room for one more.
        int place = heldMode(transaction, object) == NONE ? lineLength : placeOfNewcomers(object);
        for (int i = lineLength; i > place; i--) {
            line[i] = line[i - 1];
        }
        line[place] = transaction;
        lineLength++;
        awaited[transaction] = object;
        wanted[transaction] = wants;
    }

    /** Where in the line the first request stands of one that holds nothing of the object; else the line's end. */
    private int placeOfNewcomers(int object) {
        for (int i = 0; i < lineLength; i++) {
            if (awaited[line[i]] == object && heldMode(line[i], object) == NONE) {
                return i;
            }
        }
        return lineLength;
    }

    private void leaveQueue(int transaction) {
        int kept = 0;
        for (int i = 0; i < lineLength; i++) {
            if (line[i] != transaction) {
                line[kept] = line[i];
                kept++;
            }
        }
        lineLength = kept;
        awaited[transaction] = NONE;
        wanted[transaction] = NONE;
    }

    private int queueLength(int object) {
        int length = 0;
        for (int i = 0; i < lineLength; i++) {
            if (awaited[line[i]] == object) {
                length++;
            }
        }
        return length;
    }

    /** The i-th transaction in the object's queue, NONE if there is none. */
    private int inQueue(int object, int i) {
        int place = 0;
        for (int k = 0; k < lineLength; k++) {
            if (awaited[line[k]] == object) {
                if (place == i) {
                    return line[k];
                }
                place++;
            }
        }
        return NONE;
    }

    /** The first in the object's queue, if its request can be granted now; else NONE. */
    private int firstToGrant(int object) {
        int first = inQueue(object, 0);
        if (first == NONE || othersInTheWay(first, object, wanted[first]) != 0) {
            return NONE;
        }
        return first;
    }

    /** How many requests were granted. */
    private int serve(int object) {
        int granted = 0;
        int first = firstToGrant(object);
        while (first != NONE && granted < TRANSACTIONS) {
            grant(first);
            granted++;
            first = firstToGrant(object);
        }
        return granted;
    }

    private void grant(int transaction) {
        hold(transaction, awaited[transaction], wanted[transaction]);
        leaveQueue(transaction);
        // A request is not WAITING before its object has been served once in vain.
        if (states[transaction] == WAITING) {
            grantedLater++;
        } else {
            grantedAtOnce++;
        }
        states[transaction] = ACTIVE;
    }

    // Waiting for one another

    private long waitRow(int transaction) {
        int object = awaited[transaction];
        if (object == NONE) {
            return 0;
        }
        return othersInTheWay(transaction, object, wanted[transaction]) | standingBefore(transaction, object);
    }

    private long standingBefore(int transaction, int object) {
        long before = 0;
        for (int i = 0; i < lineLength && line[i] != transaction; i++) {
            if (awaited[line[i]] == object) {
                before |= bit(line[i]);
            }
        }
        return before;
    }

    private void breakCircles(int transaction) {
        // Every round ends one transaction, so there are no more rounds than transactions.
        for (int round = 0; round < TRANSACTIONS && states[transaction] == WAITING; round++) {
            int victim = weakestOf(circleOf(transaction));
            if (victim == NONE) {
                return;
            }
            abortedInCircles++;
            end(victim, GIVEN_UP);
        }
    }

    /** All in the circle of a transaction, as bits; none, if it is in no circle. */
    private long circleOf(int transaction) {
        for (int waiter = 0; waiter < begun; waiter++) {
            waitRows[waiter] = waitRow(waiter);
        }
        return reachedFrom(transaction) & reaching(transaction);
    }

    private long reachedFrom(int transaction) {
        long reached = waitRows[transaction];
        for (int round = 0; round < TRANSACTIONS; round++) {
            long known = reached;
            for (int waiter = 0; waiter < begun; waiter++) {
                if ((reached & bit(waiter)) != 0) {
                    reached |= waitRows[waiter];
                }
            }
            if (reached == known) {
                break;
            }
        }
        return reached;
    }

    /** The transaction itself, and all that come to it. */
    private long reaching(int transaction) {
        long coming = bit(transaction);
        for (int round = 0; round < TRANSACTIONS; round++) {
            long known = coming;
            for (int waiter = 0; waiter < begun; waiter++) {
                if ((waitRows[waiter] & coming) != 0) {
                    coming |= bit(waiter);
                }
            }
            if (coming == known) {
                break;
            }
        }
        return coming;
    }

    /** The one with the least priority, of several with the greatest number; NONE of none. */
    private int weakestOf(long circle) {
        int weakest = NONE;
        for (int transaction = 0; transaction < begun; transaction++) {
            if ((circle & bit(transaction)) != 0
                    && (weakest == NONE || priorities[transaction] <= priorities[weakest])) {
                weakest = transaction;
            }
        }
        return weakest;
    }

    // How transactions end

    /** How many requests were granted thereby. */
    private int end(int transaction, int state) {
        int object = awaited[transaction];
        states[transaction] = state;
        leaveQueue(transaction);
        int granted = 0;
        // To serve an object is to look at that one alone: so each can be served as soon as it is let go.
        for (int served = 0; served < OBJECTS; served++) {
            if (letGo(transaction, served) || served == object) {
                granted += serve(served);
            }
        }
        return granted;
    }

    private int answerFor(int transaction) {
        if (states[transaction] == ACTIVE) {
            return GRANTED;
        }
        return states[transaction] == WAITING ? WAITS : ABORTED;
    }

    private int inState(int state) {
        int found = 0;
        for (int transaction = 0; transaction < begun; transaction++) {
            if (states[transaction] == state) {
                found++;
            }
        }
        return found;
    }
}
