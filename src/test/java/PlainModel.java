import java.util.ArrayList;
import java.util.List;

/**
 * The document word by word, without regard to speed: every answer is looked for among all rows,
 * and revised asks both joins at every time. The class is held against it.
 */
final class PlainModel {
    private static final int NONE = -1;

    /** A row: feature, entity, event, arrival and value. */
    private final List<int[]> rows = new ArrayList<>();
    /** A serving: feature, entity, time and row. */
    private final List<int[]> servings = new ArrayList<>();
    private final int[] lifetimes = {10000, 10000, 10000, 10000, 10000, 10000};
    private final int[][] copy = new int[6][10];
    private int now = 0;
    private int taken = 0;

    PlainModel() {
        for (int[] row : copy) {
            java.util.Arrays.fill(row, NONE);
        }
    }

    int arrive(int feature, int entity, int event, int value) {
        pair(feature, entity);
        range(event, 0, now);
        range(value, 0, 100000);
        state(rows.size() < 200);
        rows.add(new int[] {feature, entity, event, now, value});
        return rows.size() - 1;
    }

    int pass(int time) {
        range(time, 1, 10000);
        state(now + time <= 10000);
        now += time;
        return now;
    }

    int setLifetime(int feature, int time) {
        range(feature, 0, 5);
        range(time, 0, 10000);
        int before = lifetimes[feature];
        lifetimes[feature] = time;
        return before;
    }

    int now() {
        return now;
    }

    int rows() {
        return rows.size();
    }

    int value(int row) {
        index(row, rows.size());
        return rows.get(row)[4];
    }

    int late(int row) {
        index(row, rows.size());
        return rows.get(row)[3] - rows.get(row)[2];
    }

    int join(int feature, int entity, int time, int known) {
        pair(feature, entity);
        range(time, 0, 10000);
        range(known, 0, now);
        int found = NONE;
        for (int row = 0; row < rows.size(); row++) {
            int[] r = rows.get(row);
            if (r[0] == feature && r[1] == entity && r[2] <= time && r[3] <= known
                    && (found == NONE || r[2] >= rows.get(found)[2])) {
                found = row;
            }
        }
        return found != NONE && time - rows.get(found)[2] > lifetimes[feature] ? NONE : found;
    }

    int window(int feature, int entity, int from, int to) {
        pair(feature, entity);
        range(from, 0, 10000);
        range(to, from, 10000);
        int sum = 0;
        for (int[] r : rows) {
            if (r[0] == feature && r[1] == entity && r[2] >= from && r[2] <= to) {
                sum += r[4];
            }
        }
        return sum;
    }

    int greatestTile(int feature, int entity, int length) {
        pair(feature, entity);
        range(length, 1, 10000);
        int greatest = 0;
        for (int k = 0; k * length <= 10000; k++) {
            int end = Math.min(10000, (k + 1) * length - 1);
            greatest = Math.max(greatest, window(feature, entity, k * length, end));
        }
        return greatest;
    }

    int tiles(int feature, int entity, int length) {
        pair(feature, entity);
        range(length, 1, 10000);
        java.util.Set<Integer> found = new java.util.HashSet<>();
        for (int[] r : rows) {
            if (r[0] == feature && r[1] == entity) {
                found.add(r[2] / length);
            }
        }
        return found.size();
    }

    int revised(int feature, int entity, int times) {
        pair(feature, entity);
        range(times, 1, 10000);
        int count = 0;
        for (int time = 0; time <= now; time += times) {
            if (join(feature, entity, time, now) != join(feature, entity, time, time)) {
                count++;
            }
        }
        return count;
    }

    int take(int changes) {
        range(changes, 1, 200);
        int count = 0;
        while (count < changes && taken < rows.size()) {
            int[] r = rows.get(taken);
            int current = copy[r[0]][r[1]];
            if (current == NONE || rows.get(current)[2] <= r[2]) {
                copy[r[0]][r[1]] = taken;
            }
            taken++;
            count++;
        }
        return count;
    }

    int lag() {
        return rows.size() - taken;
    }

    int online(int feature, int entity) {
        pair(feature, entity);
        int row = copy[feature][entity];
        return row != NONE && now - rows.get(row)[2] > lifetimes[feature] ? NONE : row;
    }

    int skew() {
        int count = 0;
        for (int feature = 0; feature <= 5; feature++) {
            for (int entity = 0; entity <= 9; entity++) {
                if (online(feature, entity) != join(feature, entity, now, now)) {
                    count++;
                }
            }
        }
        return count;
    }

    int serve(int feature, int entity) {
        pair(feature, entity);
        state(servings.size() < 200);
        servings.add(new int[] {feature, entity, now, online(feature, entity)});
        return online(feature, entity);
    }

    int servings() {
        return servings.size();
    }

    int served(int serving) {
        index(serving, servings.size());
        return servings.get(serving)[3];
    }

    boolean isSound(int serving) {
        index(serving, servings.size());
        int[] s = servings.get(serving);
        return s[3] == join(s[0], s[1], s[2], s[2]);
    }

    int unsound() {
        int count = 0;
        for (int serving = 0; serving < servings.size(); serving++) {
            count += isSound(serving) ? 0 : 1;
        }
        return count;
    }

    private static void pair(int feature, int entity) {
        range(feature, 0, 5);
        range(entity, 0, 9);
    }

    private static void range(int argument, int least, int greatest) {
        if (argument < least || argument > greatest) {
            throw new IllegalArgumentException();
        }
    }

    private static void state(boolean allowed) {
        if (!allowed) {
            throw new IllegalStateException();
        }
    }

    private static void index(int number, int count) {
        if (number < 0 || number >= count) {
            throw new IndexOutOfBoundsException();
        }
    }
}
