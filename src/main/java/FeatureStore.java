/**
 * A feature store: values of features of entities with the time of their event and the time of
 * their arrival, joins as of a moment, lifetimes, windows summed over tiles, an online copy fed by
 * changes, what was served, and skew between both copies.
 */
public final class FeatureStore {
    public static final int NONE = -1;

    private static final int FEATURES = 6;
    private static final int ENTITIES = 10;
    private static final int LAST_TIME = 10000;
    private static final int GREATEST_VALUE = 100000;
    private static final int MOST_ROWS = 200;
    private static final int MOST_SERVINGS = 200;

    /** A value that has arrived. */
    private static final class Row {
        final int number;
        final int feature;
        final int entity;
        final int event;
        final int arrival;
        final int value;
        /** The row of the same feature and entity that a join prefers next after this one. */
        Row older;

        Row(int number, int feature, int entity, int event, int arrival, int value) {
            this.number = number;
            this.feature = feature;
            this.entity = entity;
            this.event = event;
            this.arrival = arrival;
            this.value = value;
        }
    }

    /** What was told of a feature and an entity at a time. */
    private static final class Serving {
        final int feature;
        final int entity;
        final int time;
        final int row;

        Serving(int feature, int entity, int time, int row) {
            this.feature = feature;
            this.entity = entity;
            this.time = time;
            this.row = row;
        }
    }

    private int now;
    private final int[] lifetimes;

    private final Row[] rows;
    private int rowCount;
    /**
     * For each pair of a feature and an entity its row with the latest event. From there the links
     * to older rows go from later to earlier events, and from greater to lesser numbers where the
     * events are equal: so the first row of a chain that a join may look at is the one it finds,
     * and the rows of a tile stand side by side.
     */
    private final Row[] latest;

    private final Row[] onlineCopy;
    /** How many changes were taken in: the number of the row whose change is the next. */
    private int taken;

    private final Serving[] servings;
    private int servingCount;

    public FeatureStore() {
        lifetimes = new int[FEATURES];
        for (int feature = 0; feature < FEATURES; feature++) {
            lifetimes[feature] = LAST_TIME;
        }
        rows = new Row[MOST_ROWS];
        latest = new Row[FEATURES * ENTITIES];
        onlineCopy = new Row[FEATURES * ENTITIES];
        servings = new Serving[MOST_SERVINGS];
    }

    // ---- rows

    public int arrive(int feature, int entity, int event, int value)
            throws IllegalArgumentException, IllegalStateException {
        requirePair(feature, entity);
        requireRange(event, 0, now);
        requireRange(value, 0, GREATEST_VALUE);
        if (rowCount >= MOST_ROWS) {
            throw new IllegalStateException("there are 200 rows");
        }
        Row row = new Row(rowCount, feature, entity, event, now, value);
        rows[rowCount] = row;
        rowCount++;
        putInChain(row);
        return row.number;
    }

    public int pass(int time) throws IllegalArgumentException, IllegalStateException {
        requireRange(time, 1, LAST_TIME);
        if (time > LAST_TIME - now) {
            throw new IllegalStateException("now would be above 10000");
        }
        now += time;
        return now;
    }

    public int setLifetime(int feature, int time) throws IllegalArgumentException {
        requireRange(feature, 0, FEATURES - 1);
        requireRange(time, 0, LAST_TIME);
        int before = lifetimes[feature];
        lifetimes[feature] = time;
        return before;
    }

    public int now() {
        return now;
    }

    public int rows() {
        return rowCount;
    }

    public int value(int row) throws IndexOutOfBoundsException {
        return requireRow(row).value;
    }

    public int late(int row) throws IndexOutOfBoundsException {
        Row asked = requireRow(row);
        return asked.arrival - asked.event;
    }

    // ---- joins and windows

    public int join(int feature, int entity, int time, int known) throws IllegalArgumentException {
        requirePair(feature, entity);
        requireRange(time, 0, LAST_TIME);
        requireRange(known, 0, now);
        return find(feature, entity, time, known);
    }

    public int window(int feature, int entity, int from, int to) throws IllegalArgumentException {
        requirePair(feature, entity);
        requireRange(from, 0, LAST_TIME);
        requireRange(to, from, LAST_TIME);
        int sum = 0;
        for (Row row = latest[placeOf(feature, entity)]; row != null; row = row.older) {
            if (row.event >= from && row.event <= to) {
                sum += row.value;
            }
        }
        return sum;
    }

    public int greatestTile(int feature, int entity, int length) throws IllegalArgumentException {
        requirePair(feature, entity);
        requireRange(length, 1, LAST_TIME);
        int greatest = 0;
        int sum = 0;
        int tile = NONE;
        for (Row row = latest[placeOf(feature, entity)]; row != null; row = row.older) {
            int rowTile = row.event / length;
            if (rowTile != tile) {
                tile = rowTile;
                sum = 0;
            }
            sum += row.value;
            greatest = Math.max(greatest, sum);
        }
        return greatest;
    }

    public int tiles(int feature, int entity, int length) throws IllegalArgumentException {
        requirePair(feature, entity);
        requireRange(length, 1, LAST_TIME);
        int count = 0;
        int tile = NONE;
        for (Row row = latest[placeOf(feature, entity)]; row != null; row = row.older) {
            int rowTile = row.event / length;
            if (rowTile != tile) {
                tile = rowTile;
                count++;
            }
        }
        return count;
    }

    /*
     * The join by what is known now finds one row from its event on, until a later event or the
     * end of its lifetime. The join by what was known at a time has fewer rows to find, so it
     * finds that row too as soon as it has arrived; and before, it finds another one or none. So
     * the times that count are those at which a row is found before it has arrived.
     */
    public int revised(int feature, int entity, int times) throws IllegalArgumentException {
        requirePair(feature, entity);
        requireRange(times, 1, LAST_TIME);
        int count = 0;
        int laterEvent = now + 1;
        for (Row row = latest[placeOf(feature, entity)]; row != null; row = row.older) {
            int foundUntil = Math.min(laterEvent, row.event + lifetimes[feature] + 1);
            int revisedUntil = Math.min(foundUntil, row.arrival);
            if (revisedUntil > row.event) {
                count += multiplesBelow(revisedUntil, times) - multiplesBelow(row.event, times);
            }
            laterEvent = row.event;
        }
        return count;
    }

    // ---- online copy

    public int take(int changes) throws IllegalArgumentException {
        requireRange(changes, 1, MOST_ROWS);
        int count = 0;
        Row change = rowOrNull(taken);
        while (count < changes && change != null) {
            takeIn(change);
            taken++;
            count++;
            change = rowOrNull(taken);
        }
        return count;
    }

    public int lag() {
        return rowCount - taken;
    }

    public int online(int feature, int entity) throws IllegalArgumentException {
        requirePair(feature, entity);
        return tell(feature, entity);
    }

    public int skew() {
        int count = 0;
        for (int feature = 0; feature < FEATURES; feature++) {
            for (int entity = 0; entity < ENTITIES; entity++) {
                if (tell(feature, entity) != find(feature, entity, now, now)) {
                    count++;
                }
            }
        }
        return count;
    }

    // ---- servings

    public int serve(int feature, int entity)
            throws IllegalArgumentException, IllegalStateException {
        requirePair(feature, entity);
        if (servingCount >= MOST_SERVINGS) {
            throw new IllegalStateException("there are 200 servings");
        }
        int row = tell(feature, entity);
        servings[servingCount] = new Serving(feature, entity, now, row);
        servingCount++;
        return row;
    }

    public int servings() {
        return servingCount;
    }

    public int served(int serving) throws IndexOutOfBoundsException {
        return requireServing(serving).row;
    }

    public boolean isSound(int serving) throws IndexOutOfBoundsException {
        Serving asked = requireServing(serving);
        return asked.row == find(asked.feature, asked.entity, asked.time, asked.time);
    }

    public int unsound() {
        int count = 0;
        for (int serving = 0; serving < servingCount; serving++) {
            if (!isSound(serving)) {
                count++;
            }
        }
        return count;
    }

    // ---- what the calls share

    private static void requireRange(int argument, int least, int greatest) {
        if (argument < least || argument > greatest) {
            throw new IllegalArgumentException("an argument is out of range");
        }
    }

    private static void requirePair(int feature, int entity) {
        requireRange(feature, 0, FEATURES - 1);
        requireRange(entity, 0, ENTITIES - 1);
    }

    private Row requireRow(int number) {
        Row row = rowOrNull(number);
        if (row == null) {
            throw new IndexOutOfBoundsException("there is no such row");
        }
        return row;
    }

    private Serving requireServing(int number) {
        if (number < 0 || number >= servingCount || servings[number] == null) {
            throw new IndexOutOfBoundsException("there is no such serving");
        }
        return servings[number];
    }

    private Row rowOrNull(int number) {
        return number >= 0 && number < rowCount ? rows[number] : null;
    }

    private static int placeOf(int feature, int entity) {
        return feature * ENTITIES + entity;
    }

    private void putInChain(Row row) {
        int place = placeOf(row.feature, row.entity);
        Row later = null;
        Row older = latest[place];
        while (older != null && older.event > row.event) {
            later = older;
            older = older.older;
        }
        row.older = older;
        if (later == null) {
            latest[place] = row;
        } else {
            later.older = row;
        }
    }

    private int find(int feature, int entity, int time, int known) {
        Row row = latest[placeOf(feature, entity)];
        while (row != null && (row.event > time || row.arrival > known)) {
            row = row.older;
        }
        return numberUnlessExpired(row, time);
    }

    private int tell(int feature, int entity) {
        return numberUnlessExpired(onlineCopy[placeOf(feature, entity)], now);
    }

    private int numberUnlessExpired(Row row, int time) {
        if (row == null || time - row.event > lifetimes[row.feature]) {
            return NONE;
        }
        return row.number;
    }

    private void takeIn(Row change) {
        int place = placeOf(change.feature, change.entity);
        Row current = onlineCopy[place];
        if (current == null || current.event <= change.event) {
            onlineCopy[place] = change;
        }
    }

    /** How many of 0, step, 2 * step and so on are below an end that is not negative. */
    private static int multiplesBelow(int end, int step) {
        return (end + step - 1) / step;
    }
}
